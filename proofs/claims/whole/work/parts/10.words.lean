/-! words of the tables, by their places -/
set_option maxRecDepth 100000 in
theorem hin_X0 : ∀ w ∈ u_ws RX0 TX0 9, w ∈ pT := by decide +kernel
theorem df_X0 : ∀ j, j < 9 → defaultValue (tyX0 j) = vp_V [.null, .null, .null, .null, .null, .int 0, .int 0, .int 0, .null] j := by decide +kernel
set_option maxRecDepth 100000 in
theorem hin_X1 : ∀ w ∈ u_ws RX1 TX1 1, w ∈ pT := by decide +kernel
theorem df_X1 : ∀ j, j < 1 → defaultValue (tyX1 j) = vp_V [.null] j := by decide +kernel
set_option maxRecDepth 100000 in
theorem hin_X2 : ∀ w ∈ u_ws RX2 TX2 4, w ∈ pT := by decide +kernel
theorem df_X2 : ∀ j, j < 4 → defaultValue (tyX2 j) = vp_V [.int 0, .null, .null, .null] j := by decide +kernel
set_option maxRecDepth 100000 in
theorem hin_X3 : ∀ w ∈ u_ws RX3 TX3 3, w ∈ pT := by decide +kernel
theorem df_X3 : ∀ j, j < 3 → defaultValue (tyX3 j) = vp_V [.int 0, .null, .null] j := by decide +kernel
set_option maxRecDepth 100000 in
theorem hin_X4 : ∀ w ∈ u_ws RX4 TX4 4, w ∈ pT := by decide +kernel
theorem df_X4 : ∀ j, j < 4 → defaultValue (tyX4 j) = vp_V [.null, .null, .int 0, .int 0] j := by decide +kernel
set_option maxRecDepth 100000 in
theorem hin_X5 : ∀ w ∈ u_ws RX5 TX5 3, w ∈ pT := by decide +kernel
theorem df_X5 : ∀ j, j < 3 → defaultValue (tyX5 j) = vp_V [.int 0, .int 0, .null] j := by decide +kernel
set_option maxRecDepth 100000 in
theorem hin_X6 : ∀ w ∈ u_ws RX6 TX6 3, w ∈ pT := by decide +kernel
theorem df_X6 : ∀ j, j < 3 → defaultValue (tyX6 j) = vp_V [.int 0, .int 0, .null] j := by decide +kernel
set_option maxRecDepth 100000 in
theorem hin_X7 : ∀ w ∈ u_ws RX7 TX7 4, w ∈ pT := by decide +kernel
theorem df_X7 : ∀ j, j < 4 → defaultValue (tyX7 j) = vp_V [.int 0, .int 0, .null, .null] j := by decide +kernel
set_option maxRecDepth 100000 in
theorem hin_X8 : ∀ w ∈ u_ws RX8 TX8 9, w ∈ pT := by decide +kernel
theorem df_X8 : ∀ j, j < 9 → defaultValue (tyX8 j) = vp_V [.int 0, .null, .null, .null, .null, .null, .null, .null, .null] j := by decide +kernel
set_option maxRecDepth 100000 in
theorem hin_X9 : ∀ w ∈ u_ws RX9 TX9 10, w ∈ pT := by decide +kernel
theorem df_X9 : ∀ j, j < 10 → defaultValue (tyX9 j) = vp_V [.null, .null, .int 0, .null, .null, .null, .null, .null, .int 0, .int 0] j := by decide +kernel
set_option maxRecDepth 100000 in
theorem hin_X10 : ∀ w ∈ u_ws RX10 TX10 6, w ∈ pT := by decide +kernel
theorem df_X10 : ∀ j, j < 6 → defaultValue (tyX10 j) = vp_V [.int 0, .int 0, .int 0, .int 0, .int 0, .null] j := by decide +kernel
set_option maxRecDepth 100000 in
theorem hin_X11 : ∀ w ∈ u_ws RX11 TX11 10, w ∈ pT := by decide +kernel
theorem df_X11 : ∀ j, j < 10 → defaultValue (tyX11 j) = vp_V [.null, .null, .null, .null, .null, .null, .null, .null, .int 0, .int 0] j := by decide +kernel
set_option maxRecDepth 100000 in
theorem hin_X12 : ∀ w ∈ u_ws RX12 TX12 23, w ∈ pT := by decide +kernel
theorem df_X12 : ∀ j, j < 23 → defaultValue (tyX12 j) = vp_V [.int 0, .null, .null, .null, .null, .null, .int 0, .int 0, .null, .int 0, .int 0, .int 0, .int 0, .int 0, .int 0, .null, .int 0, .null, .null, .null, .null, .null, .int 0] j := by decide +kernel
theorem tb_in {w : Cond} (h : w ∈ tables_1) : w ∈ lw_tbl := List.mem_append_right _ h
theorem tb_0 {w : Cond} (h : w ∈ tables_1_1) : w ∈ lw_tbl := tb_in (List.mem_append_left _ h)
theorem tb_1 {w : Cond} (h : w ∈ tables_1_2) : w ∈ lw_tbl := tb_in (List.mem_append_right _ (List.mem_append_left _ h))
theorem tb_2 {w : Cond} (h : w ∈ tables_1_3) : w ∈ lw_tbl := tb_in (List.mem_append_right _ (List.mem_append_right _ (List.mem_append_left _ h)))
theorem tb_3 {w : Cond} (h : w ∈ tables_1_4) : w ∈ lw_tbl := tb_in (List.mem_append_right _ (List.mem_append_right _ (List.mem_append_right _ (List.mem_append_left _ h))))
theorem tb_4 {w : Cond} (h : w ∈ tables_1_5) : w ∈ lw_tbl := tb_in (List.mem_append_right _ (List.mem_append_right _ (List.mem_append_right _ (List.mem_append_right _ (List.mem_append_left _ h)))))
theorem tb_5 {w : Cond} (h : w ∈ tables_1_6) : w ∈ lw_tbl := tb_in (List.mem_append_right _ (List.mem_append_right _ (List.mem_append_right _ (List.mem_append_right _ (List.mem_append_right _ (List.mem_append_left _ h))))))
theorem tb_6 {w : Cond} (h : w ∈ tables_1_7) : w ∈ lw_tbl := tb_in (List.mem_append_right _ (List.mem_append_right _ (List.mem_append_right _ (List.mem_append_right _ (List.mem_append_right _ (List.mem_append_right _ (List.mem_append_left _ h)))))))
theorem tb_7 {w : Cond} (h : w ∈ tables_1_8) : w ∈ lw_tbl := tb_in (List.mem_append_right _ (List.mem_append_right _ (List.mem_append_right _ (List.mem_append_right _ (List.mem_append_right _ (List.mem_append_right _ (List.mem_append_right _ (List.mem_append_left _ h))))))))
theorem tb_8 {w : Cond} (h : w ∈ tables_1_9) : w ∈ lw_tbl := tb_in (List.mem_append_right _ (List.mem_append_right _ (List.mem_append_right _ (List.mem_append_right _ (List.mem_append_right _ (List.mem_append_right _ (List.mem_append_right _ (List.mem_append_right _ (List.mem_append_left _ h)))))))))
theorem tb_9 {w : Cond} (h : w ∈ tables_1_10) : w ∈ lw_tbl := tb_in (List.mem_append_right _ (List.mem_append_right _ (List.mem_append_right _ (List.mem_append_right _ (List.mem_append_right _ (List.mem_append_right _ (List.mem_append_right _ (List.mem_append_right _ (List.mem_append_right _ h)))))))))
theorem tb_p {w : Cond} (h : w ∈ k2_sels lw_privs) : w ∈ lw_tbl := List.mem_append_left _ h
set_option maxRecDepth 100000 in
theorem w_0 : Cond.selects "ScarArmy$Search" ⟨"ScarArmy$Search", "listClashes", "(LScarArmy$Army;I)I"⟩ ⟨"ScarArmy$Search", "listClashes", "(LScarArmy$Army;I)I"⟩ ∈ pT := List.mem_filter.mpr ⟨(tb_p (List.mem_of_getElem? (i := 0) rfl)), by decide +kernel⟩
set_option maxRecDepth 100000 in
theorem w_1 : Cond.selects "ScarArmy$Search" ⟨"ScarArmy$Search", "listMembers", "(I)I"⟩ ⟨"ScarArmy$Search", "listMembers", "(I)I"⟩ ∈ pT := List.mem_filter.mpr ⟨(tb_p (List.mem_of_getElem? (i := 1) rfl)), by decide +kernel⟩
set_option maxRecDepth 100000 in
theorem w_2 : Cond.selects "ScarArmy$Law" ⟨"ScarArmy$Law", "holds", "(II[I)Z"⟩ ⟨"ScarArmy$Law", "holds", "(II[I)Z"⟩ ∈ pT := List.mem_filter.mpr ⟨(tb_p (List.mem_of_getElem? (i := 2) rfl)), by decide +kernel⟩
set_option maxRecDepth 100000 in
theorem w_3 : Cond.selects "ScarArmy$Search" ⟨"ScarArmy$Search", "canBeOneMans", "(LScarArmy$Army;II)Z"⟩ ⟨"ScarArmy$Search", "canBeOneMans", "(LScarArmy$Army;II)Z"⟩ ∈ pT := List.mem_filter.mpr ⟨(tb_p (List.mem_of_getElem? (i := 3) rfl)), by decide +kernel⟩
set_option maxRecDepth 100000 in
theorem w_4 : Cond.selects "ScarArmy$Search" ⟨"ScarArmy$Search", "isFree", "(II)Z"⟩ ⟨"ScarArmy$Search", "isFree", "(II)Z"⟩ ∈ pT := List.mem_filter.mpr ⟨(tb_p (List.mem_of_getElem? (i := 4) rfl)), by decide +kernel⟩
set_option maxRecDepth 100000 in
theorem w_5 : Cond.selects "ScarArmy$Scars" ⟨"ScarArmy$Scars", "bitsWhere", "([II[I)I"⟩ ⟨"ScarArmy$Scars", "bitsWhere", "([II[I)I"⟩ ∈ pT := List.mem_filter.mpr ⟨(tb_p (List.mem_of_getElem? (i := 5) rfl)), by decide +kernel⟩
set_option maxRecDepth 100000 in
theorem w_6 : Cond.selects "ScarArmy$Search" ⟨"ScarArmy$Search", "battlesOf", "(II)I"⟩ ⟨"ScarArmy$Search", "battlesOf", "(II)I"⟩ ∈ pT := List.mem_filter.mpr ⟨(tb_p (List.mem_of_getElem? (i := 6) rfl)), by decide +kernel⟩
set_option maxRecDepth 100000 in
theorem w_7 : Cond.selects "ScarArmy$ArmyText" ⟨"ScarArmy$ArmyText", "readLine", "(LScarArmy$Army;)Z"⟩ ⟨"ScarArmy$ArmyText", "readLine", "(LScarArmy$Army;)Z"⟩ ∈ pT := List.mem_filter.mpr ⟨(tb_p (List.mem_of_getElem? (i := 7) rfl)), by decide +kernel⟩
set_option maxRecDepth 100000 in
theorem w_8 : Cond.selects "ScarArmy$ArmyText" ⟨"ScarArmy$ArmyText", "readBattle", "(LScarArmy$Battles;)Z"⟩ ⟨"ScarArmy$ArmyText", "readBattle", "(LScarArmy$Battles;)Z"⟩ ∈ pT := List.mem_filter.mpr ⟨(tb_p (List.mem_of_getElem? (i := 8) rfl)), by decide +kernel⟩
set_option maxRecDepth 100000 in
theorem w_9 : Cond.selects "ScarArmy$ArmyText" ⟨"ScarArmy$ArmyText", "takeNumber", "(II)Z"⟩ ⟨"ScarArmy$ArmyText", "takeNumber", "(II)Z"⟩ ∈ pT := List.mem_filter.mpr ⟨(tb_p (List.mem_of_getElem? (i := 9) rfl)), by decide +kernel⟩
set_option maxRecDepth 100000 in
theorem w_10 : Cond.selects "ScarArmy$ArmyText" ⟨"ScarArmy$ArmyText", "readMan", "(LScarArmy$Men;)Z"⟩ ⟨"ScarArmy$ArmyText", "readMan", "(LScarArmy$Men;)Z"⟩ ∈ pT := List.mem_filter.mpr ⟨(tb_p (List.mem_of_getElem? (i := 10) rfl)), by decide +kernel⟩
set_option maxRecDepth 100000 in
theorem w_11 : Cond.selects "ScarArmy$ArmyText" ⟨"ScarArmy$ArmyText", "readScar", "(LScarArmy$Army;)Z"⟩ ⟨"ScarArmy$ArmyText", "readScar", "(LScarArmy$Army;)Z"⟩ ∈ pT := List.mem_filter.mpr ⟨(tb_p (List.mem_of_getElem? (i := 11) rfl)), by decide +kernel⟩
set_option maxRecDepth 100000 in
theorem w_12 : Cond.selects "ScarArmy$ArmyText" ⟨"ScarArmy$ArmyText", "readTold", "(LScarArmy$Scars;)Z"⟩ ⟨"ScarArmy$ArmyText", "readTold", "(LScarArmy$Scars;)Z"⟩ ∈ pT := List.mem_filter.mpr ⟨(tb_p (List.mem_of_getElem? (i := 12) rfl)), by decide +kernel⟩
set_option maxRecDepth 100000 in
theorem w_14 : Cond.selects "ScarArmy$LawText" ⟨"ScarArmy$LawText", "readLine", "()Z"⟩ ⟨"ScarArmy$LawText", "readLine", "()Z"⟩ ∈ pT := List.mem_filter.mpr ⟨(tb_p (List.mem_of_getElem? (i := 14) rfl)), by decide +kernel⟩
set_option maxRecDepth 100000 in
theorem w_15 : Cond.selects "ScarArmy$LawText" ⟨"ScarArmy$LawText", "emit", "(I)V"⟩ ⟨"ScarArmy$LawText", "emit", "(I)V"⟩ ∈ pT := List.mem_filter.mpr ⟨(tb_p (List.mem_of_getElem? (i := 15) rfl)), by decide +kernel⟩
set_option maxRecDepth 100000 in
theorem w_16 : Cond.selects "ScarArmy$LawText" ⟨"ScarArmy$LawText", "readCondition", "(I)Z"⟩ ⟨"ScarArmy$LawText", "readCondition", "(I)Z"⟩ ∈ pT := List.mem_filter.mpr ⟨(tb_p (List.mem_of_getElem? (i := 16) rfl)), by decide +kernel⟩
set_option maxRecDepth 100000 in
theorem w_17 : Cond.selects "ScarArmy$LawText" ⟨"ScarArmy$LawText", "readAtom", "(I)Z"⟩ ⟨"ScarArmy$LawText", "readAtom", "(I)Z"⟩ ∈ pT := List.mem_filter.mpr ⟨(tb_p (List.mem_of_getElem? (i := 17) rfl)), by decide +kernel⟩
set_option maxRecDepth 100000 in
theorem w_18 : Cond.selects "ScarArmy$LawText" ⟨"ScarArmy$LawText", "readNegated", "(I)Z"⟩ ⟨"ScarArmy$LawText", "readNegated", "(I)Z"⟩ ∈ pT := List.mem_filter.mpr ⟨(tb_p (List.mem_of_getElem? (i := 18) rfl)), by decide +kernel⟩
set_option maxRecDepth 100000 in
theorem w_19 : Cond.selects "ScarArmy$LawText" ⟨"ScarArmy$LawText", "namedTruth", "()I"⟩ ⟨"ScarArmy$LawText", "namedTruth", "()I"⟩ ∈ pT := List.mem_filter.mpr ⟨(tb_p (List.mem_of_getElem? (i := 19) rfl)), by decide +kernel⟩
set_option maxRecDepth 100000 in
theorem w_20 : Cond.selects "ScarArmy$LawText" ⟨"ScarArmy$LawText", "readSum", "()Z"⟩ ⟨"ScarArmy$LawText", "readSum", "()Z"⟩ ∈ pT := List.mem_filter.mpr ⟨(tb_p (List.mem_of_getElem? (i := 20) rfl)), by decide +kernel⟩
set_option maxRecDepth 100000 in
theorem w_21 : Cond.selects "ScarArmy$LawText" ⟨"ScarArmy$LawText", "namedPart", "()I"⟩ ⟨"ScarArmy$LawText", "namedPart", "()I"⟩ ∈ pT := List.mem_filter.mpr ⟨(tb_p (List.mem_of_getElem? (i := 21) rfl)), by decide +kernel⟩
set_option maxRecDepth 100000 in
theorem w_22 : Cond.selects "ScarArmy" ⟨"ScarArmy", "needBattle", "(I)V"⟩ ⟨"ScarArmy", "needBattle", "(I)V"⟩ ∈ pT := List.mem_filter.mpr ⟨(tb_p (List.mem_of_getElem? (i := 22) rfl)), by decide +kernel⟩
set_option maxRecDepth 100000 in
theorem w_23 : Cond.selects "ScarArmy" ⟨"ScarArmy", "needMan", "(I)V"⟩ ⟨"ScarArmy", "needMan", "(I)V"⟩ ∈ pT := List.mem_filter.mpr ⟨(tb_p (List.mem_of_getElem? (i := 23) rfl)), by decide +kernel⟩
set_option maxRecDepth 100000 in
theorem w_24 : Cond.selects "ScarArmy" ⟨"ScarArmy", "needScar", "(I)V"⟩ ⟨"ScarArmy", "needScar", "(I)V"⟩ ∈ pT := List.mem_filter.mpr ⟨(tb_p (List.mem_of_getElem? (i := 24) rfl)), by decide +kernel⟩
set_option maxRecDepth 100000 in
theorem w_25 : Cond.selects "ScarArmy" ⟨"ScarArmy", "needTrade", "(I)V"⟩ ⟨"ScarArmy", "needTrade", "(I)V"⟩ ∈ pT := List.mem_filter.mpr ⟨(tb_p (List.mem_of_getElem? (i := 25) rfl)), by decide +kernel⟩
set_option maxRecDepth 100000 in
theorem w_26 : Cond.selects "ScarArmy$Army" ⟨"ScarArmy$Army", "payPensions", "()I"⟩ ⟨"ScarArmy$Army", "payPensions", "()I"⟩ ∈ pT := List.mem_filter.mpr ⟨(tb_p (List.mem_of_getElem? (i := 26) rfl)), by decide +kernel⟩
set_option maxRecDepth 100000 in
theorem w_27 : Cond.selects "ScarArmy" ⟨"ScarArmy", "needSales", "(I)V"⟩ ⟨"ScarArmy", "needSales", "(I)V"⟩ ∈ pT := List.mem_filter.mpr ⟨(tb_p (List.mem_of_getElem? (i := 27) rfl)), by decide +kernel⟩
set_option maxRecDepth 100000 in
theorem w_28 : Cond.selects "ScarArmy$Army" ⟨"ScarArmy$Army", "draw", "()I"⟩ ⟨"ScarArmy$Army", "draw", "()I"⟩ ∈ pT := List.mem_filter.mpr ⟨(tb_p (List.mem_of_getElem? (i := 28) rfl)), by decide +kernel⟩
set_option maxRecDepth 100000 in
theorem w_29 : Cond.selects "ScarArmy$Search" ⟨"ScarArmy$Search", "scarsOf", "(II)I"⟩ ⟨"ScarArmy$Search", "scarsOf", "(II)I"⟩ ∈ pT := List.mem_filter.mpr ⟨(tb_p (List.mem_of_getElem? (i := 29) rfl)), by decide +kernel⟩
set_option maxRecDepth 100000 in
theorem w_30 : Cond.selects "ScarArmy$Search" ⟨"ScarArmy$Search", "buy", "(IIII)V"⟩ ⟨"ScarArmy$Search", "buy", "(IIII)V"⟩ ∈ pT := List.mem_filter.mpr ⟨(tb_p (List.mem_of_getElem? (i := 30) rfl)), by decide +kernel⟩
set_option maxRecDepth 100000 in
theorem w_31 : Cond.selects "ScarArmy$Search" ⟨"ScarArmy$Search", "findMan", "(I)Z"⟩ ⟨"ScarArmy$Search", "findMan", "(I)Z"⟩ ∈ pT := List.mem_filter.mpr ⟨(tb_p (List.mem_of_getElem? (i := 31) rfl)), by decide +kernel⟩
set_option maxRecDepth 100000 in
theorem w_32 : Cond.selects "ScarArmyModel" ⟨"ScarArmyModel", "readAll", "(Z)I"⟩ ⟨"ScarArmyModel", "readAll", "(Z)I"⟩ ∈ pT := List.mem_filter.mpr ⟨(tb_p (List.mem_of_getElem? (i := 32) rfl)), by decide +kernel⟩
set_option maxRecDepth 100000 in
theorem w_33 : Cond.selects "ScarArmyModel" ⟨"ScarArmyModel", "uses", "()V"⟩ ⟨"ScarArmyModel", "uses", "()V"⟩ ∈ pT := List.mem_filter.mpr ⟨(tb_p (List.mem_of_getElem? (i := 33) rfl)), by decide +kernel⟩
set_option maxRecDepth 100000 in
theorem w_34 : Cond.selects "ScarArmyModel" ⟨"ScarArmyModel", "blanks", "()V"⟩ ⟨"ScarArmyModel", "blanks", "()V"⟩ ∈ pT := List.mem_filter.mpr ⟨(tb_p (List.mem_of_getElem? (i := 34) rfl)), by decide +kernel⟩
set_option maxRecDepth 100000 in
theorem w_35 : Cond.selects "ScarArmyModel" ⟨"ScarArmyModel", "isAt", "(II)Z"⟩ ⟨"ScarArmyModel", "isAt", "(II)Z"⟩ ∈ pT := List.mem_filter.mpr ⟨(tb_p (List.mem_of_getElem? (i := 35) rfl)), by decide +kernel⟩
set_option maxRecDepth 100000 in
theorem w_36 : Cond.selects "ScarArmyModel" ⟨"ScarArmyModel", "readLine", "(ZI)Z"⟩ ⟨"ScarArmyModel", "readLine", "(ZI)Z"⟩ ∈ pT := List.mem_filter.mpr ⟨(tb_p (List.mem_of_getElem? (i := 36) rfl)), by decide +kernel⟩
set_option maxRecDepth 100000 in
theorem w_37 : Cond.selects "ScarArmyModel" ⟨"ScarArmyModel", "letters", "()V"⟩ ⟨"ScarArmyModel", "letters", "()V"⟩ ∈ pT := List.mem_filter.mpr ⟨(tb_p (List.mem_of_getElem? (i := 37) rfl)), by decide +kernel⟩
set_option maxRecDepth 100000 in
theorem w_38 : Cond.selects "ScarArmyModel" ⟨"ScarArmyModel", "readArmyLine", "()Z"⟩ ⟨"ScarArmyModel", "readArmyLine", "()Z"⟩ ∈ pT := List.mem_filter.mpr ⟨(tb_p (List.mem_of_getElem? (i := 38) rfl)), by decide +kernel⟩
set_option maxRecDepth 100000 in
theorem w_39 : Cond.selects "ScarArmyModel" ⟨"ScarArmyModel", "isWord", "(Ljava/lang/String;)Z"⟩ ⟨"ScarArmyModel", "isWord", "(Ljava/lang/String;)Z"⟩ ∈ pT := List.mem_filter.mpr ⟨(tb_p (List.mem_of_getElem? (i := 39) rfl)), by decide +kernel⟩
set_option maxRecDepth 100000 in
theorem w_40 : Cond.selects "ScarArmyModel" ⟨"ScarArmyModel", "readBattle", "()Z"⟩ ⟨"ScarArmyModel", "readBattle", "()Z"⟩ ∈ pT := List.mem_filter.mpr ⟨(tb_p (List.mem_of_getElem? (i := 40) rfl)), by decide +kernel⟩
set_option maxRecDepth 100000 in
theorem w_41 : Cond.selects "ScarArmyModel" ⟨"ScarArmyModel", "battles", "()I"⟩ ⟨"ScarArmyModel", "battles", "()I"⟩ ∈ pT := List.mem_filter.mpr ⟨(tb_p (List.mem_of_getElem? (i := 41) rfl)), by decide +kernel⟩
set_option maxRecDepth 100000 in
theorem w_42 : Cond.selects "ScarArmyModel" ⟨"ScarArmyModel", "number", "(II)I"⟩ ⟨"ScarArmyModel", "number", "(II)I"⟩ ∈ pT := List.mem_filter.mpr ⟨(tb_p (List.mem_of_getElem? (i := 42) rfl)), by decide +kernel⟩
set_option maxRecDepth 100000 in
theorem w_43 : Cond.selects "ScarArmyModel" ⟨"ScarArmyModel", "figures", "(III)I"⟩ ⟨"ScarArmyModel", "figures", "(III)I"⟩ ∈ pT := List.mem_filter.mpr ⟨(tb_p (List.mem_of_getElem? (i := 43) rfl)), by decide +kernel⟩
set_option maxRecDepth 100000 in
theorem w_44 : Cond.selects "ScarArmyModel" ⟨"ScarArmyModel", "after", "(Ljava/lang/String;II)I"⟩ ⟨"ScarArmyModel", "after", "(Ljava/lang/String;II)I"⟩ ∈ pT := List.mem_filter.mpr ⟨(tb_p (List.mem_of_getElem? (i := 44) rfl)), by decide +kernel⟩
set_option maxRecDepth 100000 in
theorem w_45 : Cond.selects "ScarArmyModel" ⟨"ScarArmyModel", "isFigure", "()Z"⟩ ⟨"ScarArmyModel", "isFigure", "()Z"⟩ ∈ pT := List.mem_filter.mpr ⟨(tb_p (List.mem_of_getElem? (i := 45) rfl)), by decide +kernel⟩
set_option maxRecDepth 100000 in
theorem w_46 : Cond.selects "ScarArmyModel" ⟨"ScarArmyModel", "readMan", "()Z"⟩ ⟨"ScarArmyModel", "readMan", "()Z"⟩ ∈ pT := List.mem_filter.mpr ⟨(tb_p (List.mem_of_getElem? (i := 46) rfl)), by decide +kernel⟩
set_option maxRecDepth 100000 in
theorem w_47 : Cond.selects "ScarArmyModel" ⟨"ScarArmyModel", "men", "()I"⟩ ⟨"ScarArmyModel", "men", "()I"⟩ ∈ pT := List.mem_filter.mpr ⟨(tb_p (List.mem_of_getElem? (i := 47) rfl)), by decide +kernel⟩
set_option maxRecDepth 100000 in
theorem w_48 : Cond.selects "ScarArmyModel" ⟨"ScarArmyModel", "readScar", "()Z"⟩ ⟨"ScarArmyModel", "readScar", "()Z"⟩ ∈ pT := List.mem_filter.mpr ⟨(tb_p (List.mem_of_getElem? (i := 48) rfl)), by decide +kernel⟩
set_option maxRecDepth 100000 in
theorem w_49 : Cond.selects "ScarArmyModel" ⟨"ScarArmyModel", "scars", "()I"⟩ ⟨"ScarArmyModel", "scars", "()I"⟩ ∈ pT := List.mem_filter.mpr ⟨(tb_p (List.mem_of_getElem? (i := 49) rfl)), by decide +kernel⟩
set_option maxRecDepth 100000 in
theorem w_50 : Cond.selects "ScarArmyModel" ⟨"ScarArmyModel", "passes", "(Ljava/lang/String;)Z"⟩ ⟨"ScarArmyModel", "passes", "(Ljava/lang/String;)Z"⟩ ∈ pT := List.mem_filter.mpr ⟨(tb_p (List.mem_of_getElem? (i := 50) rfl)), by decide +kernel⟩
set_option maxRecDepth 100000 in
theorem w_51 : Cond.selects "ScarArmyModel" ⟨"ScarArmyModel", "manTold", "()I"⟩ ⟨"ScarArmyModel", "manTold", "()I"⟩ ∈ pT := List.mem_filter.mpr ⟨(tb_p (List.mem_of_getElem? (i := 51) rfl)), by decide +kernel⟩
set_option maxRecDepth 100000 in
theorem w_52 : Cond.selects "ScarArmyModel" ⟨"ScarArmyModel", "appends", "(IIIIII)V"⟩ ⟨"ScarArmyModel", "appends", "(IIIIII)V"⟩ ∈ pT := List.mem_filter.mpr ⟨(tb_p (List.mem_of_getElem? (i := 52) rfl)), by decide +kernel⟩
set_option maxRecDepth 100000 in
theorem w_53 : Cond.selects "ScarArmyModel" ⟨"ScarArmyModel", "readTold", "()Z"⟩ ⟨"ScarArmyModel", "readTold", "()Z"⟩ ∈ pT := List.mem_filter.mpr ⟨(tb_p (List.mem_of_getElem? (i := 53) rfl)), by decide +kernel⟩
set_option maxRecDepth 100000 in
theorem w_54 : Cond.selects "ScarArmyModel" ⟨"ScarArmyModel", "readDead", "()Z"⟩ ⟨"ScarArmyModel", "readDead", "()Z"⟩ ∈ pT := List.mem_filter.mpr ⟨(tb_p (List.mem_of_getElem? (i := 54) rfl)), by decide +kernel⟩
set_option maxRecDepth 100000 in
theorem w_55 : Cond.selects "ScarArmyModel" ⟨"ScarArmyModel", "readLawLine", "(I)Z"⟩ ⟨"ScarArmyModel", "readLawLine", "(I)Z"⟩ ∈ pT := List.mem_filter.mpr ⟨(tb_p (List.mem_of_getElem? (i := 55) rfl)), by decide +kernel⟩
set_option maxRecDepth 100000 in
theorem w_56 : Cond.selects "ScarArmyModel" ⟨"ScarArmyModel", "readCond", "()Z"⟩ ⟨"ScarArmyModel", "readCond", "()Z"⟩ ∈ pT := List.mem_filter.mpr ⟨(tb_p (List.mem_of_getElem? (i := 56) rfl)), by decide +kernel⟩
set_option maxRecDepth 100000 in
theorem w_57 : Cond.selects "ScarArmyModel" ⟨"ScarArmyModel", "readAllOf", "()Z"⟩ ⟨"ScarArmyModel", "readAllOf", "()Z"⟩ ∈ pT := List.mem_filter.mpr ⟨(tb_p (List.mem_of_getElem? (i := 57) rfl)), by decide +kernel⟩
set_option maxRecDepth 100000 in
theorem w_58 : Cond.selects "ScarArmyModel" ⟨"ScarArmyModel", "readAtom", "()Z"⟩ ⟨"ScarArmyModel", "readAtom", "()Z"⟩ ∈ pT := List.mem_filter.mpr ⟨(tb_p (List.mem_of_getElem? (i := 58) rfl)), by decide +kernel⟩
set_option maxRecDepth 100000 in
theorem w_59 : Cond.selects "ScarArmyModel" ⟨"ScarArmyModel", "sign", "(I)Z"⟩ ⟨"ScarArmyModel", "sign", "(I)Z"⟩ ∈ pT := List.mem_filter.mpr ⟨(tb_p (List.mem_of_getElem? (i := 59) rfl)), by decide +kernel⟩
set_option maxRecDepth 100000 in
theorem w_60 : Cond.selects "ScarArmyModel" ⟨"ScarArmyModel", "emits", "(II)V"⟩ ⟨"ScarArmyModel", "emits", "(II)V"⟩ ∈ pT := List.mem_filter.mpr ⟨(tb_p (List.mem_of_getElem? (i := 60) rfl)), by decide +kernel⟩
set_option maxRecDepth 100000 in
theorem w_61 : Cond.selects "ScarArmyModel" ⟨"ScarArmyModel", "readTag", "()Z"⟩ ⟨"ScarArmyModel", "readTag", "()Z"⟩ ∈ pT := List.mem_filter.mpr ⟨(tb_p (List.mem_of_getElem? (i := 61) rfl)), by decide +kernel⟩
set_option maxRecDepth 100000 in
theorem w_62 : Cond.selects "ScarArmyModel" ⟨"ScarArmyModel", "readSum", "()Z"⟩ ⟨"ScarArmyModel", "readSum", "()Z"⟩ ∈ pT := List.mem_filter.mpr ⟨(tb_p (List.mem_of_getElem? (i := 62) rfl)), by decide +kernel⟩
set_option maxRecDepth 100000 in
theorem w_63 : Cond.selects "ScarArmyModel" ⟨"ScarArmyModel", "readPart", "()Z"⟩ ⟨"ScarArmyModel", "readPart", "()Z"⟩ ∈ pT := List.mem_filter.mpr ⟨(tb_p (List.mem_of_getElem? (i := 63) rfl)), by decide +kernel⟩
set_option maxRecDepth 100000 in
theorem w_64 : Cond.selects "ScarArmyModel" ⟨"ScarArmyModel", "throwsIf", "(ZI)Z"⟩ ⟨"ScarArmyModel", "throwsIf", "(ZI)Z"⟩ ∈ pT := List.mem_filter.mpr ⟨(tb_p (List.mem_of_getElem? (i := 64) rfl)), by decide +kernel⟩
set_option maxRecDepth 100000 in
theorem w_65 : Cond.selects "ScarArmyModel" ⟨"ScarArmyModel", "noBattle", "(I)Z"⟩ ⟨"ScarArmyModel", "noBattle", "(I)Z"⟩ ∈ pT := List.mem_filter.mpr ⟨(tb_p (List.mem_of_getElem? (i := 65) rfl)), by decide +kernel⟩
set_option maxRecDepth 100000 in
theorem w_66 : Cond.selects "ScarArmyModel" ⟨"ScarArmyModel", "menAt", "(IZ)I"⟩ ⟨"ScarArmyModel", "menAt", "(IZ)I"⟩ ∈ pT := List.mem_filter.mpr ⟨(tb_p (List.mem_of_getElem? (i := 66) rfl)), by decide +kernel⟩
set_option maxRecDepth 100000 in
theorem w_67 : Cond.selects "ScarArmyModel" ⟨"ScarArmyModel", "of", "(II)I"⟩ ⟨"ScarArmyModel", "of", "(II)I"⟩ ∈ pT := List.mem_filter.mpr ⟨(tb_p (List.mem_of_getElem? (i := 67) rfl)), by decide +kernel⟩
set_option maxRecDepth 100000 in
theorem w_68 : Cond.selects "ScarArmyModel" ⟨"ScarArmyModel", "wasThere", "(I)I"⟩ ⟨"ScarArmyModel", "wasThere", "(I)I"⟩ ∈ pT := List.mem_filter.mpr ⟨(tb_p (List.mem_of_getElem? (i := 68) rfl)), by decide +kernel⟩
set_option maxRecDepth 100000 in
theorem w_69 : Cond.selects "ScarArmyModel" ⟨"ScarArmyModel", "isAlive", "(I)Z"⟩ ⟨"ScarArmyModel", "isAlive", "(I)Z"⟩ ∈ pT := List.mem_filter.mpr ⟨(tb_p (List.mem_of_getElem? (i := 69) rfl)), by decide +kernel⟩
set_option maxRecDepth 100000 in
theorem w_70 : Cond.selects "ScarArmyModel" ⟨"ScarArmyModel", "ofMan", "(II)I"⟩ ⟨"ScarArmyModel", "ofMan", "(II)I"⟩ ∈ pT := List.mem_filter.mpr ⟨(tb_p (List.mem_of_getElem? (i := 70) rfl)), by decide +kernel⟩
set_option maxRecDepth 100000 in
theorem w_71 : Cond.selects "ScarArmyModel" ⟨"ScarArmyModel", "isVoid", "(I)Z"⟩ ⟨"ScarArmyModel", "isVoid", "(I)Z"⟩ ∈ pT := List.mem_filter.mpr ⟨(tb_p (List.mem_of_getElem? (i := 71) rfl)), by decide +kernel⟩
set_option maxRecDepth 100000 in
theorem w_72 : Cond.selects "ScarArmyModel" ⟨"ScarArmyModel", "isVoidBy", "(II)Z"⟩ ⟨"ScarArmyModel", "isVoidBy", "(II)Z"⟩ ∈ pT := List.mem_filter.mpr ⟨(tb_p (List.mem_of_getElem? (i := 72) rfl)), by decide +kernel⟩
set_option maxRecDepth 100000 in
theorem w_73 : Cond.selects "ScarArmyModel" ⟨"ScarArmyModel", "holdsLine", "(III)Z"⟩ ⟨"ScarArmyModel", "holdsLine", "(III)Z"⟩ ∈ pT := List.mem_filter.mpr ⟨(tb_p (List.mem_of_getElem? (i := 73) rfl)), by decide +kernel⟩
set_option maxRecDepth 100000 in
theorem w_74 : Cond.selects "ScarArmyModel" ⟨"ScarArmyModel", "factOf", "(IIII)I"⟩ ⟨"ScarArmyModel", "factOf", "(IIII)I"⟩ ∈ pT := List.mem_filter.mpr ⟨(tb_p (List.mem_of_getElem? (i := 74) rfl)), by decide +kernel⟩
set_option maxRecDepth 100000 in
theorem w_75 : Cond.selects "ScarArmyModel" ⟨"ScarArmyModel", "daysOf", "(I)I"⟩ ⟨"ScarArmyModel", "daysOf", "(I)I"⟩ ∈ pT := List.mem_filter.mpr ⟨(tb_p (List.mem_of_getElem? (i := 75) rfl)), by decide +kernel⟩
set_option maxRecDepth 100000 in
theorem w_76 : Cond.selects "ScarArmyModel" ⟨"ScarArmyModel", "ofBattle", "(II)I"⟩ ⟨"ScarArmyModel", "ofBattle", "(II)I"⟩ ∈ pT := List.mem_filter.mpr ⟨(tb_p (List.mem_of_getElem? (i := 76) rfl)), by decide +kernel⟩
set_option maxRecDepth 100000 in
theorem w_77 : Cond.selects "ScarArmyModel" ⟨"ScarArmyModel", "isFit", "(I)Z"⟩ ⟨"ScarArmyModel", "isFit", "(I)Z"⟩ ∈ pT := List.mem_filter.mpr ⟨(tb_p (List.mem_of_getElem? (i := 77) rfl)), by decide +kernel⟩
set_option maxRecDepth 100000 in
theorem w_78 : Cond.selects "ScarArmyModel" ⟨"ScarArmyModel", "skinsOf", "(I)I"⟩ ⟨"ScarArmyModel", "skinsOf", "(I)I"⟩ ∈ pT := List.mem_filter.mpr ⟨(tb_p (List.mem_of_getElem? (i := 78) rfl)), by decide +kernel⟩
set_option maxRecDepth 100000 in
theorem w_79 : Cond.selects "ScarArmyModel" ⟨"ScarArmyModel", "noMan", "(I)Z"⟩ ⟨"ScarArmyModel", "noMan", "(I)Z"⟩ ∈ pT := List.mem_filter.mpr ⟨(tb_p (List.mem_of_getElem? (i := 79) rfl)), by decide +kernel⟩
set_option maxRecDepth 100000 in
theorem w_80 : Cond.selects "ScarArmyModel" ⟨"ScarArmyModel", "borne", "(I)I"⟩ ⟨"ScarArmyModel", "borne", "(I)I"⟩ ∈ pT := List.mem_filter.mpr ⟨(tb_p (List.mem_of_getElem? (i := 80) rfl)), by decide +kernel⟩
set_option maxRecDepth 100000 in
theorem w_81 : Cond.selects "ScarArmyModel" ⟨"ScarArmyModel", "looksOf", "(I)I"⟩ ⟨"ScarArmyModel", "looksOf", "(I)I"⟩ ∈ pT := List.mem_filter.mpr ⟨(tb_p (List.mem_of_getElem? (i := 81) rfl)), by decide +kernel⟩
set_option maxRecDepth 100000 in
theorem w_82 : Cond.selects "ScarArmyModel" ⟨"ScarArmyModel", "plainLooks", "(I)I"⟩ ⟨"ScarArmyModel", "plainLooks", "(I)I"⟩ ∈ pT := List.mem_filter.mpr ⟨(tb_p (List.mem_of_getElem? (i := 82) rfl)), by decide +kernel⟩
set_option maxRecDepth 100000 in
theorem w_83 : Cond.selects "ScarArmyModel" ⟨"ScarArmyModel", "worthOf", "(I)I"⟩ ⟨"ScarArmyModel", "worthOf", "(I)I"⟩ ∈ pT := List.mem_filter.mpr ⟨(tb_p (List.mem_of_getElem? (i := 83) rfl)), by decide +kernel⟩
set_option maxRecDepth 100000 in
theorem w_84 : Cond.selects "ScarArmyModel" ⟨"ScarArmyModel", "worthBy", "(II)I"⟩ ⟨"ScarArmyModel", "worthBy", "(II)I"⟩ ∈ pT := List.mem_filter.mpr ⟨(tb_p (List.mem_of_getElem? (i := 84) rfl)), by decide +kernel⟩
set_option maxRecDepth 100000 in
theorem w_85 : Cond.selects "ScarArmyModel" ⟨"ScarArmyModel", "earsOf", "(I)I"⟩ ⟨"ScarArmyModel", "earsOf", "(I)I"⟩ ∈ pT := List.mem_filter.mpr ⟨(tb_p (List.mem_of_getElem? (i := 85) rfl)), by decide +kernel⟩
set_option maxRecDepth 100000 in
theorem w_86 : Cond.selects "ScarArmyModel" ⟨"ScarArmyModel", "placesOf", "(I)I"⟩ ⟨"ScarArmyModel", "placesOf", "(I)I"⟩ ∈ pT := List.mem_filter.mpr ⟨(tb_p (List.mem_of_getElem? (i := 86) rfl)), by decide +kernel⟩
set_option maxRecDepth 100000 in
theorem w_87 : Cond.selects "ScarArmyModel" ⟨"ScarArmyModel", "pensionOf", "(I)I"⟩ ⟨"ScarArmyModel", "pensionOf", "(I)I"⟩ ∈ pT := List.mem_filter.mpr ⟨(tb_p (List.mem_of_getElem? (i := 87) rfl)), by decide +kernel⟩
set_option maxRecDepth 100000 in
theorem w_88 : Cond.selects "ScarArmyModel" ⟨"ScarArmyModel", "cycleOf", "(I)I"⟩ ⟨"ScarArmyModel", "cycleOf", "(I)I"⟩ ∈ pT := List.mem_filter.mpr ⟨(tb_p (List.mem_of_getElem? (i := 88) rfl)), by decide +kernel⟩
set_option maxRecDepth 100000 in
theorem w_89 : Cond.selects "ScarArmyModel" ⟨"ScarArmyModel", "heldBy", "(I)I"⟩ ⟨"ScarArmyModel", "heldBy", "(I)I"⟩ ∈ pT := List.mem_filter.mpr ⟨(tb_p (List.mem_of_getElem? (i := 89) rfl)), by decide +kernel⟩
set_option maxRecDepth 100000 in
theorem w_90 : Cond.selects "ScarArmyModel" ⟨"ScarArmyModel", "scarsOf", "(I)I"⟩ ⟨"ScarArmyModel", "scarsOf", "(I)I"⟩ ∈ pT := List.mem_filter.mpr ⟨(tb_p (List.mem_of_getElem? (i := 90) rfl)), by decide +kernel⟩
set_option maxRecDepth 100000 in
theorem w_91 : Cond.selects "ScarArmyModel" ⟨"ScarArmyModel", "noScar", "(I)Z"⟩ ⟨"ScarArmyModel", "noScar", "(I)Z"⟩ ∈ pT := List.mem_filter.mpr ⟨(tb_p (List.mem_of_getElem? (i := 91) rfl)), by decide +kernel⟩
set_option maxRecDepth 100000 in
theorem w_92 : Cond.selects "ScarArmyModel" ⟨"ScarArmyModel", "priceOf", "(I)I"⟩ ⟨"ScarArmyModel", "priceOf", "(I)I"⟩ ∈ pT := List.mem_filter.mpr ⟨(tb_p (List.mem_of_getElem? (i := 92) rfl)), by decide +kernel⟩
set_option maxRecDepth 100000 in
theorem w_93 : Cond.selects "ScarArmyModel" ⟨"ScarArmyModel", "handedOver", "(I)I"⟩ ⟨"ScarArmyModel", "handedOver", "(I)I"⟩ ∈ pT := List.mem_filter.mpr ⟨(tb_p (List.mem_of_getElem? (i := 93) rfl)), by decide +kernel⟩
set_option maxRecDepth 100000 in
theorem w_94 : Cond.selects "ScarArmyModel" ⟨"ScarArmyModel", "ofLog", "(II)I"⟩ ⟨"ScarArmyModel", "ofLog", "(II)I"⟩ ∈ pT := List.mem_filter.mpr ⟨(tb_p (List.mem_of_getElem? (i := 94) rfl)), by decide +kernel⟩
set_option maxRecDepth 100000 in
theorem w_95 : Cond.selects "ScarArmyModel" ⟨"ScarArmyModel", "threadOf", "(I)I"⟩ ⟨"ScarArmyModel", "threadOf", "(I)I"⟩ ∈ pT := List.mem_filter.mpr ⟨(tb_p (List.mem_of_getElem? (i := 95) rfl)), by decide +kernel⟩
set_option maxRecDepth 100000 in
theorem w_96 : Cond.selects "ScarArmyModel" ⟨"ScarArmyModel", "whoIs", "(I)I"⟩ ⟨"ScarArmyModel", "whoIs", "(I)I"⟩ ∈ pT := List.mem_filter.mpr ⟨(tb_p (List.mem_of_getElem? (i := 96) rfl)), by decide +kernel⟩
set_option maxRecDepth 100000 in
theorem w_97 : Cond.selects "ScarArmyModel" ⟨"ScarArmyModel", "remembers", "()V"⟩ ⟨"ScarArmyModel", "remembers", "()V"⟩ ∈ pT := List.mem_filter.mpr ⟨(tb_p (List.mem_of_getElem? (i := 97) rfl)), by decide +kernel⟩
set_option maxRecDepth 100000 in
theorem w_98 : Cond.selects "ScarArmyModel" ⟨"ScarArmyModel", "goesOver", "(III)V"⟩ ⟨"ScarArmyModel", "goesOver", "(III)V"⟩ ∈ pT := List.mem_filter.mpr ⟨(tb_p (List.mem_of_getElem? (i := 98) rfl)), by decide +kernel⟩
set_option maxRecDepth 100000 in
theorem w_99 : Cond.selects "ScarArmyModel" ⟨"ScarArmyModel", "gets", "(II)V"⟩ ⟨"ScarArmyModel", "gets", "(II)V"⟩ ∈ pT := List.mem_filter.mpr ⟨(tb_p (List.mem_of_getElem? (i := 99) rfl)), by decide +kernel⟩
set_option maxRecDepth 100000 in
theorem w_100 : Cond.selects "ScarArmyModel" ⟨"ScarArmyModel", "tells", "(IIII)V"⟩ ⟨"ScarArmyModel", "tells", "(IIII)V"⟩ ∈ pT := List.mem_filter.mpr ⟨(tb_p (List.mem_of_getElem? (i := 100) rfl)), by decide +kernel⟩
set_option maxRecDepth 100000 in
theorem w_101 : Cond.selects "ScarArmyModel" ⟨"ScarArmyModel", "goes", "(I)I"⟩ ⟨"ScarArmyModel", "goes", "(I)I"⟩ ∈ pT := List.mem_filter.mpr ⟨(tb_p (List.mem_of_getElem? (i := 101) rfl)), by decide +kernel⟩
set_option maxRecDepth 100000 in
theorem w_102 : Cond.selects "ScarArmyModel" ⟨"ScarArmyModel", "month", "()I"⟩ ⟨"ScarArmyModel", "month", "()I"⟩ ∈ pT := List.mem_filter.mpr ⟨(tb_p (List.mem_of_getElem? (i := 102) rfl)), by decide +kernel⟩
set_option maxRecDepth 100000 in
theorem w_103 : Cond.selects "ScarArmyModel" ⟨"ScarArmyModel", "allScars", "(I)I"⟩ ⟨"ScarArmyModel", "allScars", "(I)I"⟩ ∈ pT := List.mem_filter.mpr ⟨(tb_p (List.mem_of_getElem? (i := 103) rfl)), by decide +kernel⟩
set_option maxRecDepth 100000 in
theorem w_104 : Cond.selects "ScarArmyModel" ⟨"ScarArmyModel", "areHis", "(I)Z"⟩ ⟨"ScarArmyModel", "areHis", "(I)Z"⟩ ∈ pT := List.mem_filter.mpr ⟨(tb_p (List.mem_of_getElem? (i := 104) rfl)), by decide +kernel⟩
set_option maxRecDepth 100000 in
theorem w_105 : Cond.selects "ScarArmyModel" ⟨"ScarArmyModel", "areBoth", "(II)Z"⟩ ⟨"ScarArmyModel", "areBoth", "(II)Z"⟩ ∈ pT := List.mem_filter.mpr ⟨(tb_p (List.mem_of_getElem? (i := 105) rfl)), by decide +kernel⟩
set_option maxRecDepth 100000 in
theorem w_106 : Cond.selects "ScarArmyModel" ⟨"ScarArmyModel", "canBoth", "(II)Z"⟩ ⟨"ScarArmyModel", "canBoth", "(II)Z"⟩ ∈ pT := List.mem_filter.mpr ⟨(tb_p (List.mem_of_getElem? (i := 106) rfl)), by decide +kernel⟩
set_option maxRecDepth 100000 in
theorem w_107 : Cond.selects "ScarArmyModel" ⟨"ScarArmyModel", "allOffered", "(I)I"⟩ ⟨"ScarArmyModel", "allOffered", "(I)I"⟩ ∈ pT := List.mem_filter.mpr ⟨(tb_p (List.mem_of_getElem? (i := 107) rfl)), by decide +kernel⟩
set_option maxRecDepth 100000 in
theorem w_108 : Cond.selects "ScarArmyModel" ⟨"ScarArmyModel", "isOffered", "(II)Z"⟩ ⟨"ScarArmyModel", "isOffered", "(II)Z"⟩ ∈ pT := List.mem_filter.mpr ⟨(tb_p (List.mem_of_getElem? (i := 108) rfl)), by decide +kernel⟩
set_option maxRecDepth 100000 in
theorem w_109 : Cond.selects "ScarArmyModel" ⟨"ScarArmyModel", "laysOffers", "(I)V"⟩ ⟨"ScarArmyModel", "laysOffers", "(I)V"⟩ ∈ pT := List.mem_filter.mpr ⟨(tb_p (List.mem_of_getElem? (i := 109) rfl)), by decide +kernel⟩
set_option maxRecDepth 100000 in
theorem w_110 : Cond.selects "ScarArmyModel" ⟨"ScarArmyModel", "gainsOf", "(II)I"⟩ ⟨"ScarArmyModel", "gainsOf", "(II)I"⟩ ∈ pT := List.mem_filter.mpr ⟨(tb_p (List.mem_of_getElem? (i := 110) rfl)), by decide +kernel⟩
set_option maxRecDepth 100000 in
theorem w_111 : Cond.selects "ScarArmyModel" ⟨"ScarArmyModel", "buyerOf", "(I)I"⟩ ⟨"ScarArmyModel", "buyerOf", "(I)I"⟩ ∈ pT := List.mem_filter.mpr ⟨(tb_p (List.mem_of_getElem? (i := 111) rfl)), by decide +kernel⟩
set_option maxRecDepth 100000 in
theorem w_112 : Cond.selects "ScarArmyModel" ⟨"ScarArmyModel", "matched", "(I)I"⟩ ⟨"ScarArmyModel", "matched", "(I)I"⟩ ∈ pT := List.mem_filter.mpr ⟨(tb_p (List.mem_of_getElem? (i := 112) rfl)), by decide +kernel⟩
set_option maxRecDepth 100000 in
theorem w_113 : Cond.selects "ScarArmyModel" ⟨"ScarArmyModel", "meant", "(I)I"⟩ ⟨"ScarArmyModel", "meant", "(I)I"⟩ ∈ pT := List.mem_filter.mpr ⟨(tb_p (List.mem_of_getElem? (i := 113) rfl)), by decide +kernel⟩
set_option maxRecDepth 100000 in
theorem w_114 : Cond.selects "ScarArmyModel" ⟨"ScarArmyModel", "allMen", "(I)I"⟩ ⟨"ScarArmyModel", "allMen", "(I)I"⟩ ∈ pT := List.mem_filter.mpr ⟨(tb_p (List.mem_of_getElem? (i := 114) rfl)), by decide +kernel⟩
set_option maxRecDepth 100000 in
theorem w_115 : Cond.selects "ScarArmyModel" ⟨"ScarArmyModel", "keepsAll", "()V"⟩ ⟨"ScarArmyModel", "keepsAll", "()V"⟩ ∈ pT := List.mem_filter.mpr ⟨(tb_p (List.mem_of_getElem? (i := 115) rfl)), by decide +kernel⟩
set_option maxRecDepth 100000 in
theorem w_116 : Cond.selects "ScarArmyModel" ⟨"ScarArmyModel", "bringsBack", "()V"⟩ ⟨"ScarArmyModel", "bringsBack", "()V"⟩ ∈ pT := List.mem_filter.mpr ⟨(tb_p (List.mem_of_getElem? (i := 116) rfl)), by decide +kernel⟩
set_option maxRecDepth 100000 in
theorem w_117 : Cond.selects "ScarArmyModel" ⟨"ScarArmyModel", "isRoute", "(I)Z"⟩ ⟨"ScarArmyModel", "isRoute", "(I)Z"⟩ ∈ pT := List.mem_filter.mpr ⟨(tb_p (List.mem_of_getElem? (i := 117) rfl)), by decide +kernel⟩
set_option maxRecDepth 100000 in
theorem w_118 : Cond.selects "ScarArmyModel" ⟨"ScarArmyModel", "sales", "(I)I"⟩ ⟨"ScarArmyModel", "sales", "(I)I"⟩ ∈ pT := List.mem_filter.mpr ⟨(tb_p (List.mem_of_getElem? (i := 118) rfl)), by decide +kernel⟩
set_option maxRecDepth 100000 in
theorem w_119 : Cond.selects "ScarArmyModel" ⟨"ScarArmyModel", "sells", "()Z"⟩ ⟨"ScarArmyModel", "sells", "()Z"⟩ ∈ pT := List.mem_filter.mpr ⟨(tb_p (List.mem_of_getElem? (i := 119) rfl)), by decide +kernel⟩
set_option maxRecDepth 100000 in
theorem w_120 : Cond.selects "ScarArmyModel" ⟨"ScarArmyModel", "draw", "(I)I"⟩ ⟨"ScarArmyModel", "draw", "(I)I"⟩ ∈ pT := List.mem_filter.mpr ⟨(tb_p (List.mem_of_getElem? (i := 120) rfl)), by decide +kernel⟩
set_option maxRecDepth 100000 in
theorem w_121 : Cond.selects "ScarArmyModel" ⟨"ScarArmyModel", "alive", "()I"⟩ ⟨"ScarArmyModel", "alive", "()I"⟩ ∈ pT := List.mem_filter.mpr ⟨(tb_p (List.mem_of_getElem? (i := 121) rfl)), by decide +kernel⟩
set_option maxRecDepth 100000 in
theorem w_122 : Cond.selects "ScarArmyModel" ⟨"ScarArmyModel", "allCoins", "()I"⟩ ⟨"ScarArmyModel", "allCoins", "()I"⟩ ∈ pT := List.mem_filter.mpr ⟨(tb_p (List.mem_of_getElem? (i := 122) rfl)), by decide +kernel⟩
set_option maxRecDepth 100000 in
theorem w_123 : Cond.selects "ScarArmyModel" ⟨"ScarArmyModel", "allWorth", "()I"⟩ ⟨"ScarArmyModel", "allWorth", "()I"⟩ ∈ pT := List.mem_filter.mpr ⟨(tb_p (List.mem_of_getElem? (i := 123) rfl)), by decide +kernel⟩
set_option maxRecDepth 100000 in
theorem w_125 : (Jvm.Cond.initialized "ScarArmy") ∈ pT := List.mem_filter.mpr ⟨(tb_0 (List.mem_of_getElem? (i := 1) rfl)), by decide +kernel⟩
set_option maxRecDepth 100000 in
theorem w_126 : (Jvm.Cond.initialized "ScarArmy$Tape") ∈ pT := List.mem_filter.mpr ⟨(tb_0 (List.mem_of_getElem? (i := 2) rfl)), by decide +kernel⟩
set_option maxRecDepth 100000 in
theorem w_127 : (Jvm.Cond.initialized "ScarArmy$ArmyText") ∈ pT := List.mem_filter.mpr ⟨(tb_0 (List.mem_of_getElem? (i := 3) rfl)), by decide +kernel⟩
set_option maxRecDepth 100000 in
theorem w_128 : (Jvm.Cond.initialized "ScarArmy$LawText") ∈ pT := List.mem_filter.mpr ⟨(tb_0 (List.mem_of_getElem? (i := 4) rfl)), by decide +kernel⟩
set_option maxRecDepth 100000 in
theorem w_129 : (Jvm.Cond.initialized "ScarArmy$Army") ∈ pT := List.mem_filter.mpr ⟨(tb_0 (List.mem_of_getElem? (i := 5) rfl)), by decide +kernel⟩
set_option maxRecDepth 100000 in
theorem w_130 : (Jvm.Cond.initialized "ScarArmy$Battles") ∈ pT := List.mem_filter.mpr ⟨(tb_0 (List.mem_of_getElem? (i := 6) rfl)), by decide +kernel⟩
set_option maxRecDepth 100000 in
theorem w_131 : (Jvm.Cond.initialized "ScarArmy$Men") ∈ pT := List.mem_filter.mpr ⟨(tb_0 (List.mem_of_getElem? (i := 7) rfl)), by decide +kernel⟩
set_option maxRecDepth 100000 in
theorem w_132 : (Jvm.Cond.initialized "ScarArmy$Scars") ∈ pT := List.mem_filter.mpr ⟨(tb_0 (List.mem_of_getElem? (i := 8) rfl)), by decide +kernel⟩
set_option maxRecDepth 100000 in
theorem w_133 : (Jvm.Cond.initialized "ScarArmy$Log") ∈ pT := List.mem_filter.mpr ⟨(tb_0 (List.mem_of_getElem? (i := 9) rfl)), by decide +kernel⟩
set_option maxRecDepth 100000 in
theorem w_134 : (Jvm.Cond.initialized "ScarArmy$Memory") ∈ pT := List.mem_filter.mpr ⟨(tb_0 (List.mem_of_getElem? (i := 10) rfl)), by decide +kernel⟩
set_option maxRecDepth 100000 in
theorem w_135 : (Jvm.Cond.initialized "ScarArmy$Search") ∈ pT := List.mem_filter.mpr ⟨(tb_0 (List.mem_of_getElem? (i := 11) rfl)), by decide +kernel⟩
set_option maxRecDepth 100000 in
theorem w_136 : (Jvm.Cond.initialized "ScarArmyModel") ∈ pT := List.mem_filter.mpr ⟨(tb_0 (List.mem_of_getElem? (i := 12) rfl)), by decide +kernel⟩
set_option maxRecDepth 100000 in
theorem w_137 : (Jvm.Cond.initialized "java/lang/System") ∈ pT := List.mem_filter.mpr ⟨(tb_0 (List.mem_of_getElem? (i := 13) rfl)), by decide +kernel⟩
set_option maxRecDepth 100000 in
theorem w_138 : (Jvm.Cond.initialized "java/lang/Math") ∈ pT := List.mem_filter.mpr ⟨(tb_0 (List.mem_of_getElem? (i := 14) rfl)), by decide +kernel⟩
set_option maxRecDepth 100000 in
theorem w_139 : (Jvm.Cond.initialized "java/lang/String") ∈ pT := List.mem_filter.mpr ⟨(tb_0 (List.mem_of_getElem? (i := 15) rfl)), by decide +kernel⟩
set_option maxRecDepth 100000 in
theorem w_140 : (Jvm.Cond.initialized "java/lang/StringLatin1") ∈ pT := List.mem_filter.mpr ⟨(tb_0 (List.mem_of_getElem? (i := 16) rfl)), by decide +kernel⟩
set_option maxRecDepth 100000 in
theorem w_141 : (Jvm.Cond.initialized "jdk/internal/util/Preconditions") ∈ pT := List.mem_filter.mpr ⟨(tb_0 (List.mem_of_getElem? (i := 17) rfl)), by decide +kernel⟩
set_option maxRecDepth 100000 in
theorem w_146 : (Jvm.Cond.initialized "java/lang/IllegalArgumentException") ∈ pT := List.mem_filter.mpr ⟨(tb_0 (List.mem_of_getElem? (i := 22) rfl)), by decide +kernel⟩
set_option maxRecDepth 100000 in
theorem w_147 : (Jvm.Cond.initialized "java/lang/UnsupportedOperationException") ∈ pT := List.mem_filter.mpr ⟨(tb_0 (List.mem_of_getElem? (i := 23) rfl)), by decide +kernel⟩
set_option maxRecDepth 100000 in
theorem w_148 : (Jvm.Cond.initialized "ScarArmy$Law") ∈ pT := List.mem_filter.mpr ⟨(tb_0 (List.mem_of_getElem? (i := 24) rfl)), by decide +kernel⟩
set_option maxRecDepth 100000 in
theorem w_149 : (Jvm.Cond.initialized "java/util/Arrays") ∈ pT := List.mem_filter.mpr ⟨(tb_0 (List.mem_of_getElem? (i := 25) rfl)), by decide +kernel⟩
set_option maxRecDepth 100000 in
theorem w_150 : (Jvm.Cond.initialized "java/lang/IndexOutOfBoundsException") ∈ pT := List.mem_filter.mpr ⟨(tb_0 (List.mem_of_getElem? (i := 26) rfl)), by decide +kernel⟩
set_option maxRecDepth 100000 in
theorem w_151 : (Jvm.Cond.initialized "java/util/NoSuchElementException") ∈ pT := List.mem_filter.mpr ⟨(tb_0 (List.mem_of_getElem? (i := 27) rfl)), by decide +kernel⟩
set_option maxRecDepth 100000 in
theorem w_152 : (Jvm.Cond.initialized "java/lang/IllegalStateException") ∈ pT := List.mem_filter.mpr ⟨(tb_0 (List.mem_of_getElem? (i := 28) rfl)), by decide +kernel⟩
set_option maxRecDepth 100000 in
theorem w_153 : (Jvm.Cond.initialized "java/lang/Integer") ∈ pT := List.mem_filter.mpr ⟨(tb_0 (List.mem_of_getElem? (i := 29) rfl)), by decide +kernel⟩
set_option maxRecDepth 100000 in
theorem w_158 : (Jvm.Cond.code ({ cls := "ScarArmy", name := "<init>", desc := "()V" } : Jvm.MethodName) prog_1_method_1_code (1 : Nat) (Option.none : Option Jvm.ClassFile.FieldType)) ∈ pT := List.mem_filter.mpr ⟨(tb_0 (List.mem_of_getElem? (i := 34) rfl)), by decide +kernel⟩
set_option maxRecDepth 100000 in
theorem w_159 : (Jvm.Cond.methodLink "ScarArmy" (1 : Nat) ({ cls := "java/lang/Object", name := "<init>", desc := "()V" } : Jvm.MethodName)) ∈ pT := List.mem_filter.mpr ⟨(tb_0 (List.mem_of_getElem? (i := 35) rfl)), by decide +kernel⟩
set_option maxRecDepth 100000 in
theorem w_160 : (Jvm.Cond.instanceMethod ({ cls := "java/lang/Object", name := "<init>", desc := "()V" } : Jvm.MethodName)) ∈ pT := List.mem_filter.mpr ⟨(tb_0 (List.mem_of_getElem? (i := 36) rfl)), by decide +kernel⟩
set_option maxRecDepth 100000 in
theorem w_161 : (Jvm.Cond.code ({ cls := "java/lang/Object", name := "<init>", desc := "()V" } : Jvm.MethodName) object_method_1_code (1 : Nat) (Option.none : Option Jvm.ClassFile.FieldType)) ∈ pT := List.mem_filter.mpr ⟨(tb_0 (List.mem_of_getElem? (i := 37) rfl)), by decide +kernel⟩
set_option maxRecDepth 100000 in
theorem w_162 : (Jvm.Cond.classLink "ScarArmy" (7 : Nat) "ScarArmy$Tape") ∈ pT := List.mem_filter.mpr ⟨(tb_0 (List.mem_of_getElem? (i := 38) rfl)), by decide +kernel⟩
set_option maxRecDepth 100000 in
theorem w_163 : (Jvm.Cond.instantiable "ScarArmy$Tape" (6 : Nat)) ∈ pT := List.mem_filter.mpr ⟨(tb_0 (List.mem_of_getElem? (i := 39) rfl)), by decide +kernel⟩
set_option maxRecDepth 100000 in
theorem w_165 : (Jvm.Cond.instanceMethod ({ cls := "ScarArmy$Tape", name := "<init>", desc := "()V" } : Jvm.MethodName)) ∈ pT := List.mem_filter.mpr ⟨(tb_0 (List.mem_of_getElem? (i := 41) rfl)), by decide +kernel⟩
set_option maxRecDepth 100000 in
theorem w_166 : (Jvm.Cond.code ({ cls := "ScarArmy$Tape", name := "<init>", desc := "()V" } : Jvm.MethodName) prog_12_method_1_code (1 : Nat) (Option.none : Option Jvm.ClassFile.FieldType)) ∈ pT := List.mem_filter.mpr ⟨(tb_0 (List.mem_of_getElem? (i := 42) rfl)), by decide +kernel⟩
set_option maxRecDepth 100000 in
theorem w_167 : (Jvm.Cond.methodLink "ScarArmy$Tape" (3 : Nat) ({ cls := "java/lang/Object", name := "<init>", desc := "()V" } : Jvm.MethodName)) ∈ pT := List.mem_filter.mpr ⟨(tb_0 (List.mem_of_getElem? (i := 43) rfl)), by decide +kernel⟩
set_option maxRecDepth 100000 in
theorem w_168 : (Jvm.Cond.fieldLink "ScarArmy$Tape" (9 : Nat) "ScarArmy$Tape" "length" "I") ∈ pT := List.mem_filter.mpr ⟨(tb_0 (List.mem_of_getElem? (i := 44) rfl)), by decide +kernel⟩
set_option maxRecDepth 100000 in
theorem w_169 : (Jvm.Cond.fieldLink "ScarArmy" (67 : Nat) "ScarArmy$Tape" "length" "I") ∈ pT := List.mem_filter.mpr ⟨(tb_0 (List.mem_of_getElem? (i := 45) rfl)), by decide +kernel⟩
set_option maxRecDepth 100000 in
theorem w_170 : (Jvm.Cond.fieldLink "ScarArmy$Search" (139 : Nat) "ScarArmy$Tape" "length" "I") ∈ pT := List.mem_filter.mpr ⟨(tb_0 (List.mem_of_getElem? (i := 46) rfl)), by decide +kernel⟩
set_option maxRecDepth 100000 in
theorem w_171 : (Jvm.Cond.fieldLink "ScarArmy$Tape" (15 : Nat) "ScarArmy$Tape" "begin" "I") ∈ pT := List.mem_filter.mpr ⟨(tb_0 (List.mem_of_getElem? (i := 47) rfl)), by decide +kernel⟩
set_option maxRecDepth 100000 in
theorem w_172 : (Jvm.Cond.fieldLink "ScarArmy$ArmyText" (28 : Nat) "ScarArmy$Tape" "begin" "I") ∈ pT := List.mem_filter.mpr ⟨(tb_0 (List.mem_of_getElem? (i := 48) rfl)), by decide +kernel⟩
set_option maxRecDepth 100000 in
theorem w_173 : (Jvm.Cond.fieldLink "ScarArmy$LawText" (40 : Nat) "ScarArmy$Tape" "begin" "I") ∈ pT := List.mem_filter.mpr ⟨(tb_0 (List.mem_of_getElem? (i := 49) rfl)), by decide +kernel⟩
set_option maxRecDepth 100000 in
theorem w_174 : (Jvm.Cond.fieldLink "ScarArmy$Tape" (18 : Nat) "ScarArmy$Tape" "isNumber" "Z") ∈ pT := List.mem_filter.mpr ⟨(tb_0 (List.mem_of_getElem? (i := 50) rfl)), by decide +kernel⟩
set_option maxRecDepth 100000 in
theorem w_175 : (Jvm.Cond.fieldLink "ScarArmy$ArmyText" (110 : Nat) "ScarArmy$Tape" "isNumber" "Z") ∈ pT := List.mem_filter.mpr ⟨(tb_0 (List.mem_of_getElem? (i := 51) rfl)), by decide +kernel⟩
set_option maxRecDepth 100000 in
theorem w_176 : (Jvm.Cond.fieldLink "ScarArmy$Tape" (22 : Nat) "ScarArmy$Tape" "value" "I") ∈ pT := List.mem_filter.mpr ⟨(tb_0 (List.mem_of_getElem? (i := 52) rfl)), by decide +kernel⟩
set_option maxRecDepth 100000 in
theorem w_177 : (Jvm.Cond.fieldLink "ScarArmy$ArmyText" (84 : Nat) "ScarArmy$Tape" "value" "I") ∈ pT := List.mem_filter.mpr ⟨(tb_0 (List.mem_of_getElem? (i := 53) rfl)), by decide +kernel⟩
set_option maxRecDepth 100000 in
theorem w_178 : (Jvm.Cond.fieldLink "ScarArmy$LawText" (74 : Nat) "ScarArmy$Tape" "value" "I") ∈ pT := List.mem_filter.mpr ⟨(tb_0 (List.mem_of_getElem? (i := 54) rfl)), by decide +kernel⟩
set_option maxRecDepth 100000 in
theorem w_179 : (Jvm.Cond.fieldLink "ScarArmy$Tape" (25 : Nat) "ScarArmy$Tape" "behind" "I") ∈ pT := List.mem_filter.mpr ⟨(tb_0 (List.mem_of_getElem? (i := 55) rfl)), by decide +kernel⟩
set_option maxRecDepth 100000 in
theorem w_180 : (Jvm.Cond.fieldLink "ScarArmy$Tape" (28 : Nat) "ScarArmy$Tape" "bytes" "[B") ∈ pT := List.mem_filter.mpr ⟨(tb_0 (List.mem_of_getElem? (i := 56) rfl)), by decide +kernel⟩
set_option maxRecDepth 100000 in
theorem w_194 : (Jvm.Cond.arrayClass Jvm.ClassFile.FieldType.byte) ∈ pT := List.mem_filter.mpr ⟨(tb_0 (List.mem_of_getElem? (i := 70) rfl)), by decide +kernel⟩
set_option maxRecDepth 100000 in
theorem w_195 : (Jvm.Cond.classLink "ScarArmy" (16 : Nat) "ScarArmy$ArmyText") ∈ pT := List.mem_filter.mpr ⟨(tb_0 (List.mem_of_getElem? (i := 71) rfl)), by decide +kernel⟩
set_option maxRecDepth 100000 in
theorem w_196 : (Jvm.Cond.instantiable "ScarArmy$ArmyText" (1 : Nat)) ∈ pT := List.mem_filter.mpr ⟨(tb_0 (List.mem_of_getElem? (i := 72) rfl)), by decide +kernel⟩
set_option maxRecDepth 100000 in
theorem w_197 : (Jvm.Cond.methodLink "ScarArmy" (18 : Nat) ({ cls := "ScarArmy$ArmyText", name := "<init>", desc := "(LScarArmy$Tape;)V" } : Jvm.MethodName)) ∈ pT := List.mem_filter.mpr ⟨(tb_0 (List.mem_of_getElem? (i := 73) rfl)), by decide +kernel⟩
set_option maxRecDepth 100000 in
theorem w_198 : (Jvm.Cond.instanceMethod ({ cls := "ScarArmy$ArmyText", name := "<init>", desc := "(LScarArmy$Tape;)V" } : Jvm.MethodName)) ∈ pT := List.mem_filter.mpr ⟨(tb_0 (List.mem_of_getElem? (i := 74) rfl)), by decide +kernel⟩
set_option maxRecDepth 100000 in
theorem w_199 : (Jvm.Cond.code ({ cls := "ScarArmy$ArmyText", name := "<init>", desc := "(LScarArmy$Tape;)V" } : Jvm.MethodName) prog_3_method_1_code (2 : Nat) (Option.none : Option Jvm.ClassFile.FieldType)) ∈ pT := List.mem_filter.mpr ⟨(tb_0 (List.mem_of_getElem? (i := 75) rfl)), by decide +kernel⟩
set_option maxRecDepth 100000 in
theorem w_200 : (Jvm.Cond.methodLink "ScarArmy$ArmyText" (3 : Nat) ({ cls := "java/lang/Object", name := "<init>", desc := "()V" } : Jvm.MethodName)) ∈ pT := List.mem_filter.mpr ⟨(tb_0 (List.mem_of_getElem? (i := 76) rfl)), by decide +kernel⟩
set_option maxRecDepth 100000 in
theorem w_201 : (Jvm.Cond.fieldLink "ScarArmy$ArmyText" (9 : Nat) "ScarArmy$ArmyText" "tape" "LScarArmy$Tape;") ∈ pT := List.mem_filter.mpr ⟨(tb_0 (List.mem_of_getElem? (i := 77) rfl)), by decide +kernel⟩
set_option maxRecDepth 100000 in
theorem w_205 : (Jvm.Cond.classLink "ScarArmy" (25 : Nat) "ScarArmy$LawText") ∈ pT := List.mem_filter.mpr ⟨(tb_0 (List.mem_of_getElem? (i := 81) rfl)), by decide +kernel⟩
set_option maxRecDepth 100000 in
theorem w_206 : (Jvm.Cond.instantiable "ScarArmy$LawText" (4 : Nat)) ∈ pT := List.mem_filter.mpr ⟨(tb_0 (List.mem_of_getElem? (i := 82) rfl)), by decide +kernel⟩
set_option maxRecDepth 100000 in
theorem w_207 : (Jvm.Cond.methodLink "ScarArmy" (27 : Nat) ({ cls := "ScarArmy$LawText", name := "<init>", desc := "(LScarArmy$Tape;)V" } : Jvm.MethodName)) ∈ pT := List.mem_filter.mpr ⟨(tb_0 (List.mem_of_getElem? (i := 83) rfl)), by decide +kernel⟩
set_option maxRecDepth 100000 in
theorem w_208 : (Jvm.Cond.instanceMethod ({ cls := "ScarArmy$LawText", name := "<init>", desc := "(LScarArmy$Tape;)V" } : Jvm.MethodName)) ∈ pT := List.mem_filter.mpr ⟨(tb_0 (List.mem_of_getElem? (i := 84) rfl)), by decide +kernel⟩
set_option maxRecDepth 100000 in
theorem w_209 : (Jvm.Cond.code ({ cls := "ScarArmy$LawText", name := "<init>", desc := "(LScarArmy$Tape;)V" } : Jvm.MethodName) prog_6_method_1_code (2 : Nat) (Option.none : Option Jvm.ClassFile.FieldType)) ∈ pT := List.mem_filter.mpr ⟨(tb_0 (List.mem_of_getElem? (i := 85) rfl)), by decide +kernel⟩
set_option maxRecDepth 100000 in
theorem w_210 : (Jvm.Cond.methodLink "ScarArmy$LawText" (3 : Nat) ({ cls := "java/lang/Object", name := "<init>", desc := "()V" } : Jvm.MethodName)) ∈ pT := List.mem_filter.mpr ⟨(tb_0 (List.mem_of_getElem? (i := 86) rfl)), by decide +kernel⟩
set_option maxRecDepth 100000 in
theorem w_211 : (Jvm.Cond.fieldLink "ScarArmy$LawText" (24 : Nat) "ScarArmy$LawText" "tape" "LScarArmy$Tape;") ∈ pT := List.mem_filter.mpr ⟨(tb_0 (List.mem_of_getElem? (i := 87) rfl)), by decide +kernel⟩
set_option maxRecDepth 100000 in
theorem w_212 : (Jvm.Cond.fieldLink "ScarArmy$LawText" (11 : Nat) "ScarArmy$LawText" "code" "[I") ∈ pT := List.mem_filter.mpr ⟨(tb_0 (List.mem_of_getElem? (i := 88) rfl)), by decide +kernel⟩
set_option maxRecDepth 100000 in
theorem w_213 : (Jvm.Cond.fieldLink "ScarArmy$LawText" (17 : Nat) "ScarArmy$LawText" "size" "I") ∈ pT := List.mem_filter.mpr ⟨(tb_0 (List.mem_of_getElem? (i := 89) rfl)), by decide +kernel⟩
set_option maxRecDepth 100000 in
theorem w_214 : (Jvm.Cond.fieldLink "ScarArmy$LawText" (21 : Nat) "ScarArmy$LawText" "lines" "I") ∈ pT := List.mem_filter.mpr ⟨(tb_0 (List.mem_of_getElem? (i := 90) rfl)), by decide +kernel⟩
set_option maxRecDepth 100000 in
theorem w_224 : (Jvm.Cond.arrayClass Jvm.ClassFile.FieldType.int) ∈ pT := List.mem_filter.mpr ⟨(tb_0 (List.mem_of_getElem? (i := 100) rfl)), by decide +kernel⟩
set_option maxRecDepth 100000 in
theorem w_225 : (Jvm.Cond.classLink "ScarArmy" (32 : Nat) "ScarArmy$Army") ∈ pT := List.mem_filter.mpr ⟨(tb_0 (List.mem_of_getElem? (i := 101) rfl)), by decide +kernel⟩
set_option maxRecDepth 100000 in
theorem w_226 : (Jvm.Cond.instantiable "ScarArmy$Army" (9 : Nat)) ∈ pT := List.mem_filter.mpr ⟨(tb_0 (List.mem_of_getElem? (i := 102) rfl)), by decide +kernel⟩
set_option maxRecDepth 100000 in
theorem w_228 : (Jvm.Cond.instanceMethod ({ cls := "ScarArmy$Army", name := "<init>", desc := "()V" } : Jvm.MethodName)) ∈ pT := List.mem_filter.mpr ⟨(tb_0 (List.mem_of_getElem? (i := 104) rfl)), by decide +kernel⟩
set_option maxRecDepth 100000 in
theorem w_229 : (Jvm.Cond.code ({ cls := "ScarArmy$Army", name := "<init>", desc := "()V" } : Jvm.MethodName) prog_2_method_1_code (1 : Nat) (Option.none : Option Jvm.ClassFile.FieldType)) ∈ pT := List.mem_filter.mpr ⟨(tb_0 (List.mem_of_getElem? (i := 105) rfl)), by decide +kernel⟩
set_option maxRecDepth 100000 in
theorem w_230 : (Jvm.Cond.methodLink "ScarArmy$Army" (3 : Nat) ({ cls := "java/lang/Object", name := "<init>", desc := "()V" } : Jvm.MethodName)) ∈ pT := List.mem_filter.mpr ⟨(tb_0 (List.mem_of_getElem? (i := 106) rfl)), by decide +kernel⟩
set_option maxRecDepth 100000 in
theorem w_231 : (Jvm.Cond.classLink "ScarArmy$Army" (9 : Nat) "ScarArmy$Battles") ∈ pT := List.mem_filter.mpr ⟨(tb_0 (List.mem_of_getElem? (i := 107) rfl)), by decide +kernel⟩
set_option maxRecDepth 100000 in
theorem w_232 : (Jvm.Cond.instantiable "ScarArmy$Battles" (4 : Nat)) ∈ pT := List.mem_filter.mpr ⟨(tb_0 (List.mem_of_getElem? (i := 108) rfl)), by decide +kernel⟩
set_option maxRecDepth 100000 in
theorem w_234 : (Jvm.Cond.instanceMethod ({ cls := "ScarArmy$Battles", name := "<init>", desc := "()V" } : Jvm.MethodName)) ∈ pT := List.mem_filter.mpr ⟨(tb_0 (List.mem_of_getElem? (i := 110) rfl)), by decide +kernel⟩
set_option maxRecDepth 100000 in
theorem w_235 : (Jvm.Cond.code ({ cls := "ScarArmy$Battles", name := "<init>", desc := "()V" } : Jvm.MethodName) prog_4_method_1_code (1 : Nat) (Option.none : Option Jvm.ClassFile.FieldType)) ∈ pT := List.mem_filter.mpr ⟨(tb_0 (List.mem_of_getElem? (i := 111) rfl)), by decide +kernel⟩
set_option maxRecDepth 100000 in
theorem w_236 : (Jvm.Cond.methodLink "ScarArmy$Battles" (3 : Nat) ({ cls := "java/lang/Object", name := "<init>", desc := "()V" } : Jvm.MethodName)) ∈ pT := List.mem_filter.mpr ⟨(tb_0 (List.mem_of_getElem? (i := 112) rfl)), by decide +kernel⟩
set_option maxRecDepth 100000 in
theorem w_237 : (Jvm.Cond.fieldLink "ScarArmy$Battles" (9 : Nat) "ScarArmy$Battles" "size" "I") ∈ pT := List.mem_filter.mpr ⟨(tb_0 (List.mem_of_getElem? (i := 113) rfl)), by decide +kernel⟩
set_option maxRecDepth 100000 in
theorem w_238 : (Jvm.Cond.fieldLink "ScarArmy$ArmyText" (100 : Nat) "ScarArmy$Battles" "size" "I") ∈ pT := List.mem_filter.mpr ⟨(tb_0 (List.mem_of_getElem? (i := 114) rfl)), by decide +kernel⟩
set_option maxRecDepth 100000 in
theorem w_239 : (Jvm.Cond.fieldLink "ScarArmy" (427 : Nat) "ScarArmy$Battles" "size" "I") ∈ pT := List.mem_filter.mpr ⟨(tb_0 (List.mem_of_getElem? (i := 115) rfl)), by decide +kernel⟩
set_option maxRecDepth 100000 in
theorem w_240 : (Jvm.Cond.fieldLink "ScarArmy$Battles" (15 : Nat) "ScarArmy$Battles" "town" "[I") ∈ pT := List.mem_filter.mpr ⟨(tb_0 (List.mem_of_getElem? (i := 116) rfl)), by decide +kernel⟩
set_option maxRecDepth 100000 in
theorem w_241 : (Jvm.Cond.fieldLink "ScarArmy" (123 : Nat) "ScarArmy$Battles" "town" "[I") ∈ pT := List.mem_filter.mpr ⟨(tb_0 (List.mem_of_getElem? (i := 117) rfl)), by decide +kernel⟩
set_option maxRecDepth 100000 in
theorem w_242 : (Jvm.Cond.fieldLink "ScarArmy$Battles" (19 : Nat) "ScarArmy$Battles" "day" "[I") ∈ pT := List.mem_filter.mpr ⟨(tb_0 (List.mem_of_getElem? (i := 118) rfl)), by decide +kernel⟩
set_option maxRecDepth 100000 in
theorem w_243 : (Jvm.Cond.fieldLink "ScarArmy$Army" (87 : Nat) "ScarArmy$Battles" "day" "[I") ∈ pT := List.mem_filter.mpr ⟨(tb_0 (List.mem_of_getElem? (i := 119) rfl)), by decide +kernel⟩
set_option maxRecDepth 100000 in
theorem w_244 : (Jvm.Cond.fieldLink "ScarArmy" (129 : Nat) "ScarArmy$Battles" "day" "[I") ∈ pT := List.mem_filter.mpr ⟨(tb_0 (List.mem_of_getElem? (i := 120) rfl)), by decide +kernel⟩
set_option maxRecDepth 100000 in
theorem w_245 : (Jvm.Cond.fieldLink "ScarArmy$Battles" (22 : Nat) "ScarArmy$Battles" "arms" "[I") ∈ pT := List.mem_filter.mpr ⟨(tb_0 (List.mem_of_getElem? (i := 121) rfl)), by decide +kernel⟩
set_option maxRecDepth 100000 in
theorem w_246 : (Jvm.Cond.fieldLink "ScarArmy$Army" (93 : Nat) "ScarArmy$Battles" "arms" "[I") ∈ pT := List.mem_filter.mpr ⟨(tb_0 (List.mem_of_getElem? (i := 122) rfl)), by decide +kernel⟩
set_option maxRecDepth 100000 in
theorem w_247 : (Jvm.Cond.fieldLink "ScarArmy" (132 : Nat) "ScarArmy$Battles" "arms" "[I") ∈ pT := List.mem_filter.mpr ⟨(tb_0 (List.mem_of_getElem? (i := 123) rfl)), by decide +kernel⟩
set_option maxRecDepth 100000 in
theorem w_257 : (Jvm.Cond.classLink "ScarArmy$Army" (18 : Nat) "ScarArmy$Men") ∈ pT := List.mem_filter.mpr ⟨(tb_0 (List.mem_of_getElem? (i := 133) rfl)), by decide +kernel⟩
set_option maxRecDepth 100000 in
theorem w_258 : (Jvm.Cond.instantiable "ScarArmy$Men" (4 : Nat)) ∈ pT := List.mem_filter.mpr ⟨(tb_0 (List.mem_of_getElem? (i := 134) rfl)), by decide +kernel⟩
set_option maxRecDepth 100000 in
theorem w_260 : (Jvm.Cond.instanceMethod ({ cls := "ScarArmy$Men", name := "<init>", desc := "()V" } : Jvm.MethodName)) ∈ pT := List.mem_filter.mpr ⟨(tb_0 (List.mem_of_getElem? (i := 136) rfl)), by decide +kernel⟩
set_option maxRecDepth 100000 in
theorem w_261 : (Jvm.Cond.code ({ cls := "ScarArmy$Men", name := "<init>", desc := "()V" } : Jvm.MethodName) prog_9_method_1_code (1 : Nat) (Option.none : Option Jvm.ClassFile.FieldType)) ∈ pT := List.mem_filter.mpr ⟨(tb_0 (List.mem_of_getElem? (i := 137) rfl)), by decide +kernel⟩
set_option maxRecDepth 100000 in
theorem w_262 : (Jvm.Cond.methodLink "ScarArmy$Men" (3 : Nat) ({ cls := "java/lang/Object", name := "<init>", desc := "()V" } : Jvm.MethodName)) ∈ pT := List.mem_filter.mpr ⟨(tb_0 (List.mem_of_getElem? (i := 138) rfl)), by decide +kernel⟩
set_option maxRecDepth 100000 in
theorem w_263 : (Jvm.Cond.fieldLink "ScarArmy$Men" (9 : Nat) "ScarArmy$Men" "size" "I") ∈ pT := List.mem_filter.mpr ⟨(tb_0 (List.mem_of_getElem? (i := 139) rfl)), by decide +kernel⟩
set_option maxRecDepth 100000 in
theorem w_264 : (Jvm.Cond.fieldLink "ScarArmy$ArmyText" (91 : Nat) "ScarArmy$Men" "size" "I") ∈ pT := List.mem_filter.mpr ⟨(tb_0 (List.mem_of_getElem? (i := 140) rfl)), by decide +kernel⟩
set_option maxRecDepth 100000 in
theorem w_265 : (Jvm.Cond.fieldLink "ScarArmy$Search" (99 : Nat) "ScarArmy$Men" "size" "I") ∈ pT := List.mem_filter.mpr ⟨(tb_0 (List.mem_of_getElem? (i := 141) rfl)), by decide +kernel⟩
set_option maxRecDepth 100000 in
theorem w_266 : (Jvm.Cond.fieldLink "ScarArmy$Army" (135 : Nat) "ScarArmy$Men" "size" "I") ∈ pT := List.mem_filter.mpr ⟨(tb_0 (List.mem_of_getElem? (i := 142) rfl)), by decide +kernel⟩
set_option maxRecDepth 100000 in
theorem w_267 : (Jvm.Cond.fieldLink "ScarArmy" (428 : Nat) "ScarArmy$Men" "size" "I") ∈ pT := List.mem_filter.mpr ⟨(tb_0 (List.mem_of_getElem? (i := 143) rfl)), by decide +kernel⟩
set_option maxRecDepth 100000 in
theorem w_268 : (Jvm.Cond.fieldLink "ScarArmy$Men" (15 : Nat) "ScarArmy$Men" "alive" "I") ∈ pT := List.mem_filter.mpr ⟨(tb_0 (List.mem_of_getElem? (i := 144) rfl)), by decide +kernel⟩
set_option maxRecDepth 100000 in
theorem w_269 : (Jvm.Cond.fieldLink "ScarArmy$Search" (150 : Nat) "ScarArmy$Men" "alive" "I") ∈ pT := List.mem_filter.mpr ⟨(tb_0 (List.mem_of_getElem? (i := 145) rfl)), by decide +kernel⟩
set_option maxRecDepth 100000 in
theorem w_270 : (Jvm.Cond.fieldLink "ScarArmy" (432 : Nat) "ScarArmy$Men" "alive" "I") ∈ pT := List.mem_filter.mpr ⟨(tb_0 (List.mem_of_getElem? (i := 146) rfl)), by decide +kernel⟩
set_option maxRecDepth 100000 in
theorem w_271 : (Jvm.Cond.fieldLink "ScarArmy$Men" (18 : Nat) "ScarArmy$Men" "name" "[I") ∈ pT := List.mem_filter.mpr ⟨(tb_0 (List.mem_of_getElem? (i := 147) rfl)), by decide +kernel⟩
set_option maxRecDepth 100000 in
theorem w_272 : (Jvm.Cond.fieldLink "ScarArmy" (172 : Nat) "ScarArmy$Men" "name" "[I") ∈ pT := List.mem_filter.mpr ⟨(tb_0 (List.mem_of_getElem? (i := 148) rfl)), by decide +kernel⟩
set_option maxRecDepth 100000 in
theorem w_273 : (Jvm.Cond.fieldLink "ScarArmy$Army" (166 : Nat) "ScarArmy$Men" "name" "[I") ∈ pT := List.mem_filter.mpr ⟨(tb_0 (List.mem_of_getElem? (i := 149) rfl)), by decide +kernel⟩
set_option maxRecDepth 100000 in
theorem w_274 : (Jvm.Cond.fieldLink "ScarArmy$Men" (22 : Nat) "ScarArmy$Men" "coins" "[I") ∈ pT := List.mem_filter.mpr ⟨(tb_0 (List.mem_of_getElem? (i := 150) rfl)), by decide +kernel⟩
set_option maxRecDepth 100000 in
theorem w_275 : (Jvm.Cond.fieldLink "ScarArmy" (175 : Nat) "ScarArmy$Men" "coins" "[I") ∈ pT := List.mem_filter.mpr ⟨(tb_0 (List.mem_of_getElem? (i := 151) rfl)), by decide +kernel⟩
set_option maxRecDepth 100000 in
theorem w_276 : (Jvm.Cond.fieldLink "ScarArmy$Army" (145 : Nat) "ScarArmy$Men" "coins" "[I") ∈ pT := List.mem_filter.mpr ⟨(tb_0 (List.mem_of_getElem? (i := 152) rfl)), by decide +kernel⟩
set_option maxRecDepth 100000 in
theorem w_286 : (Jvm.Cond.classLink "ScarArmy$Army" (25 : Nat) "ScarArmy$Scars") ∈ pT := List.mem_filter.mpr ⟨(tb_0 (List.mem_of_getElem? (i := 162) rfl)), by decide +kernel⟩
set_option maxRecDepth 100000 in
theorem w_287 : (Jvm.Cond.instantiable "ScarArmy$Scars" (9 : Nat)) ∈ pT := List.mem_filter.mpr ⟨(tb_0 (List.mem_of_getElem? (i := 163) rfl)), by decide +kernel⟩
set_option maxRecDepth 100000 in
theorem w_289 : (Jvm.Cond.instanceMethod ({ cls := "ScarArmy$Scars", name := "<init>", desc := "()V" } : Jvm.MethodName)) ∈ pT := List.mem_filter.mpr ⟨(tb_0 (List.mem_of_getElem? (i := 165) rfl)), by decide +kernel⟩
set_option maxRecDepth 100000 in
theorem w_290 : (Jvm.Cond.code ({ cls := "ScarArmy$Scars", name := "<init>", desc := "()V" } : Jvm.MethodName) prog_10_method_1_code (1 : Nat) (Option.none : Option Jvm.ClassFile.FieldType)) ∈ pT := List.mem_filter.mpr ⟨(tb_0 (List.mem_of_getElem? (i := 166) rfl)), by decide +kernel⟩
set_option maxRecDepth 100000 in
theorem w_291 : (Jvm.Cond.methodLink "ScarArmy$Scars" (3 : Nat) ({ cls := "java/lang/Object", name := "<init>", desc := "()V" } : Jvm.MethodName)) ∈ pT := List.mem_filter.mpr ⟨(tb_0 (List.mem_of_getElem? (i := 167) rfl)), by decide +kernel⟩
set_option maxRecDepth 100000 in
theorem w_292 : (Jvm.Cond.fieldLink "ScarArmy$Scars" (9 : Nat) "ScarArmy$Scars" "size" "I") ∈ pT := List.mem_filter.mpr ⟨(tb_0 (List.mem_of_getElem? (i := 168) rfl)), by decide +kernel⟩
set_option maxRecDepth 100000 in
theorem w_293 : (Jvm.Cond.fieldLink "ScarArmy$ArmyText" (120 : Nat) "ScarArmy$Scars" "size" "I") ∈ pT := List.mem_filter.mpr ⟨(tb_0 (List.mem_of_getElem? (i := 169) rfl)), by decide +kernel⟩
set_option maxRecDepth 100000 in
theorem w_294 : (Jvm.Cond.fieldLink "ScarArmy$Army" (116 : Nat) "ScarArmy$Scars" "size" "I") ∈ pT := List.mem_filter.mpr ⟨(tb_0 (List.mem_of_getElem? (i := 170) rfl)), by decide +kernel⟩
set_option maxRecDepth 100000 in
theorem w_295 : (Jvm.Cond.fieldLink "ScarArmy$Search" (114 : Nat) "ScarArmy$Scars" "size" "I") ∈ pT := List.mem_filter.mpr ⟨(tb_0 (List.mem_of_getElem? (i := 171) rfl)), by decide +kernel⟩
set_option maxRecDepth 100000 in
theorem w_296 : (Jvm.Cond.fieldLink "ScarArmy" (280 : Nat) "ScarArmy$Scars" "size" "I") ∈ pT := List.mem_filter.mpr ⟨(tb_0 (List.mem_of_getElem? (i := 172) rfl)), by decide +kernel⟩
set_option maxRecDepth 100000 in
theorem w_297 : (Jvm.Cond.fieldLink "ScarArmy$Scars" (15 : Nat) "ScarArmy$Scars" "place" "[I") ∈ pT := List.mem_filter.mpr ⟨(tb_0 (List.mem_of_getElem? (i := 173) rfl)), by decide +kernel⟩
set_option maxRecDepth 100000 in
theorem w_298 : (Jvm.Cond.fieldLink "ScarArmy$Army" (84 : Nat) "ScarArmy$Scars" "place" "[I") ∈ pT := List.mem_filter.mpr ⟨(tb_0 (List.mem_of_getElem? (i := 174) rfl)), by decide +kernel⟩
set_option maxRecDepth 100000 in
theorem w_299 : (Jvm.Cond.fieldLink "ScarArmy$Search" (78 : Nat) "ScarArmy$Scars" "place" "[I") ∈ pT := List.mem_filter.mpr ⟨(tb_0 (List.mem_of_getElem? (i := 175) rfl)), by decide +kernel⟩
set_option maxRecDepth 100000 in
theorem w_300 : (Jvm.Cond.fieldLink "ScarArmy" (198 : Nat) "ScarArmy$Scars" "place" "[I") ∈ pT := List.mem_filter.mpr ⟨(tb_0 (List.mem_of_getElem? (i := 176) rfl)), by decide +kernel⟩
set_option maxRecDepth 100000 in
theorem w_301 : (Jvm.Cond.fieldLink "ScarArmy$Scars" (19 : Nat) "ScarArmy$Scars" "weapon" "[I") ∈ pT := List.mem_filter.mpr ⟨(tb_0 (List.mem_of_getElem? (i := 177) rfl)), by decide +kernel⟩
set_option maxRecDepth 100000 in
theorem w_302 : (Jvm.Cond.fieldLink "ScarArmy$Army" (81 : Nat) "ScarArmy$Scars" "weapon" "[I") ∈ pT := List.mem_filter.mpr ⟨(tb_0 (List.mem_of_getElem? (i := 178) rfl)), by decide +kernel⟩
set_option maxRecDepth 100000 in
theorem w_303 : (Jvm.Cond.fieldLink "ScarArmy" (201 : Nat) "ScarArmy$Scars" "weapon" "[I") ∈ pT := List.mem_filter.mpr ⟨(tb_0 (List.mem_of_getElem? (i := 179) rfl)), by decide +kernel⟩
set_option maxRecDepth 100000 in
theorem w_304 : (Jvm.Cond.fieldLink "ScarArmy$Scars" (22 : Nat) "ScarArmy$Scars" "battle" "[I") ∈ pT := List.mem_filter.mpr ⟨(tb_0 (List.mem_of_getElem? (i := 180) rfl)), by decide +kernel⟩
set_option maxRecDepth 100000 in
theorem w_305 : (Jvm.Cond.fieldLink "ScarArmy$Army" (78 : Nat) "ScarArmy$Scars" "battle" "[I") ∈ pT := List.mem_filter.mpr ⟨(tb_0 (List.mem_of_getElem? (i := 181) rfl)), by decide +kernel⟩
set_option maxRecDepth 100000 in
theorem w_306 : (Jvm.Cond.fieldLink "ScarArmy$Search" (87 : Nat) "ScarArmy$Scars" "battle" "[I") ∈ pT := List.mem_filter.mpr ⟨(tb_0 (List.mem_of_getElem? (i := 182) rfl)), by decide +kernel⟩
set_option maxRecDepth 100000 in
theorem w_307 : (Jvm.Cond.fieldLink "ScarArmy" (204 : Nat) "ScarArmy$Scars" "battle" "[I") ∈ pT := List.mem_filter.mpr ⟨(tb_0 (List.mem_of_getElem? (i := 183) rfl)), by decide +kernel⟩
set_option maxRecDepth 100000 in
theorem w_308 : (Jvm.Cond.fieldLink "ScarArmy$Scars" (25 : Nat) "ScarArmy$Scars" "depth" "[I") ∈ pT := List.mem_filter.mpr ⟨(tb_0 (List.mem_of_getElem? (i := 184) rfl)), by decide +kernel⟩
set_option maxRecDepth 100000 in
theorem w_309 : (Jvm.Cond.fieldLink "ScarArmy$Army" (72 : Nat) "ScarArmy$Scars" "depth" "[I") ∈ pT := List.mem_filter.mpr ⟨(tb_0 (List.mem_of_getElem? (i := 185) rfl)), by decide +kernel⟩
set_option maxRecDepth 100000 in
theorem w_310 : (Jvm.Cond.fieldLink "ScarArmy" (207 : Nat) "ScarArmy$Scars" "depth" "[I") ∈ pT := List.mem_filter.mpr ⟨(tb_0 (List.mem_of_getElem? (i := 186) rfl)), by decide +kernel⟩
set_option maxRecDepth 100000 in
theorem w_311 : (Jvm.Cond.fieldLink "ScarArmy$Scars" (28 : Nat) "ScarArmy$Scars" "told" "[I") ∈ pT := List.mem_filter.mpr ⟨(tb_0 (List.mem_of_getElem? (i := 187) rfl)), by decide +kernel⟩
set_option maxRecDepth 100000 in
theorem w_312 : (Jvm.Cond.fieldLink "ScarArmy$Army" (75 : Nat) "ScarArmy$Scars" "told" "[I") ∈ pT := List.mem_filter.mpr ⟨(tb_0 (List.mem_of_getElem? (i := 188) rfl)), by decide +kernel⟩
set_option maxRecDepth 100000 in
theorem w_313 : (Jvm.Cond.fieldLink "ScarArmy$ArmyText" (140 : Nat) "ScarArmy$Scars" "told" "[I") ∈ pT := List.mem_filter.mpr ⟨(tb_0 (List.mem_of_getElem? (i := 189) rfl)), by decide +kernel⟩
set_option maxRecDepth 100000 in
theorem w_314 : (Jvm.Cond.fieldLink "ScarArmy" (210 : Nat) "ScarArmy$Scars" "told" "[I") ∈ pT := List.mem_filter.mpr ⟨(tb_0 (List.mem_of_getElem? (i := 190) rfl)), by decide +kernel⟩
set_option maxRecDepth 100000 in
theorem w_315 : (Jvm.Cond.fieldLink "ScarArmy$Scars" (31 : Nat) "ScarArmy$Scars" "cutOn" "[I") ∈ pT := List.mem_filter.mpr ⟨(tb_0 (List.mem_of_getElem? (i := 191) rfl)), by decide +kernel⟩
set_option maxRecDepth 100000 in
theorem w_316 : (Jvm.Cond.fieldLink "ScarArmy$Army" (90 : Nat) "ScarArmy$Scars" "cutOn" "[I") ∈ pT := List.mem_filter.mpr ⟨(tb_0 (List.mem_of_getElem? (i := 192) rfl)), by decide +kernel⟩
set_option maxRecDepth 100000 in
theorem w_317 : (Jvm.Cond.fieldLink "ScarArmy" (213 : Nat) "ScarArmy$Scars" "cutOn" "[I") ∈ pT := List.mem_filter.mpr ⟨(tb_0 (List.mem_of_getElem? (i := 193) rfl)), by decide +kernel⟩
set_option maxRecDepth 100000 in
theorem w_318 : (Jvm.Cond.fieldLink "ScarArmy$Scars" (34 : Nat) "ScarArmy$Scars" "bearer" "[I") ∈ pT := List.mem_filter.mpr ⟨(tb_0 (List.mem_of_getElem? (i := 194) rfl)), by decide +kernel⟩
set_option maxRecDepth 100000 in
theorem w_319 : (Jvm.Cond.fieldLink "ScarArmy$Army" (104 : Nat) "ScarArmy$Scars" "bearer" "[I") ∈ pT := List.mem_filter.mpr ⟨(tb_0 (List.mem_of_getElem? (i := 195) rfl)), by decide +kernel⟩
set_option maxRecDepth 100000 in
theorem w_320 : (Jvm.Cond.fieldLink "ScarArmy$ArmyText" (136 : Nat) "ScarArmy$Scars" "bearer" "[I") ∈ pT := List.mem_filter.mpr ⟨(tb_0 (List.mem_of_getElem? (i := 196) rfl)), by decide +kernel⟩
set_option maxRecDepth 100000 in
theorem w_321 : (Jvm.Cond.fieldLink "ScarArmy" (216 : Nat) "ScarArmy$Scars" "bearer" "[I") ∈ pT := List.mem_filter.mpr ⟨(tb_0 (List.mem_of_getElem? (i := 197) rfl)), by decide +kernel⟩
set_option maxRecDepth 100000 in
theorem w_322 : (Jvm.Cond.fieldLink "ScarArmy$Search" (115 : Nat) "ScarArmy$Scars" "bearer" "[I") ∈ pT := List.mem_filter.mpr ⟨(tb_0 (List.mem_of_getElem? (i := 198) rfl)), by decide +kernel⟩
set_option maxRecDepth 100000 in
theorem w_323 : (Jvm.Cond.fieldLink "ScarArmy$Scars" (37 : Nat) "ScarArmy$Scars" "trades" "[I") ∈ pT := List.mem_filter.mpr ⟨(tb_0 (List.mem_of_getElem? (i := 199) rfl)), by decide +kernel⟩
set_option maxRecDepth 100000 in
theorem w_324 : (Jvm.Cond.fieldLink "ScarArmy" (225 : Nat) "ScarArmy$Scars" "trades" "[I") ∈ pT := List.mem_filter.mpr ⟨(tb_0 (List.mem_of_getElem? (i := 200) rfl)), by decide +kernel⟩
set_option maxRecDepth 100000 in
theorem w_344 : (Jvm.Cond.classLink "ScarArmy$Army" (32 : Nat) "ScarArmy$Log") ∈ pT := List.mem_filter.mpr ⟨(tb_0 (List.mem_of_getElem? (i := 220) rfl)), by decide +kernel⟩
set_option maxRecDepth 100000 in
theorem w_345 : (Jvm.Cond.instantiable "ScarArmy$Log" (3 : Nat)) ∈ pT := List.mem_filter.mpr ⟨(tb_0 (List.mem_of_getElem? (i := 221) rfl)), by decide +kernel⟩
set_option maxRecDepth 100000 in
theorem w_347 : (Jvm.Cond.instanceMethod ({ cls := "ScarArmy$Log", name := "<init>", desc := "()V" } : Jvm.MethodName)) ∈ pT := List.mem_filter.mpr ⟨(tb_0 (List.mem_of_getElem? (i := 223) rfl)), by decide +kernel⟩
set_option maxRecDepth 100000 in
theorem w_348 : (Jvm.Cond.code ({ cls := "ScarArmy$Log", name := "<init>", desc := "()V" } : Jvm.MethodName) prog_7_method_1_code (1 : Nat) (Option.none : Option Jvm.ClassFile.FieldType)) ∈ pT := List.mem_filter.mpr ⟨(tb_0 (List.mem_of_getElem? (i := 224) rfl)), by decide +kernel⟩
set_option maxRecDepth 100000 in
theorem w_349 : (Jvm.Cond.methodLink "ScarArmy$Log" (3 : Nat) ({ cls := "java/lang/Object", name := "<init>", desc := "()V" } : Jvm.MethodName)) ∈ pT := List.mem_filter.mpr ⟨(tb_0 (List.mem_of_getElem? (i := 225) rfl)), by decide +kernel⟩
set_option maxRecDepth 100000 in
theorem w_350 : (Jvm.Cond.fieldLink "ScarArmy$Log" (9 : Nat) "ScarArmy$Log" "size" "I") ∈ pT := List.mem_filter.mpr ⟨(tb_0 (List.mem_of_getElem? (i := 226) rfl)), by decide +kernel⟩
set_option maxRecDepth 100000 in
theorem w_351 : (Jvm.Cond.fieldLink "ScarArmy" (438 : Nat) "ScarArmy$Log" "size" "I") ∈ pT := List.mem_filter.mpr ⟨(tb_0 (List.mem_of_getElem? (i := 227) rfl)), by decide +kernel⟩
set_option maxRecDepth 100000 in
theorem w_352 : (Jvm.Cond.fieldLink "ScarArmy$Log" (15 : Nat) "ScarArmy$Log" "next" "I") ∈ pT := List.mem_filter.mpr ⟨(tb_0 (List.mem_of_getElem? (i := 228) rfl)), by decide +kernel⟩
set_option maxRecDepth 100000 in
theorem w_353 : (Jvm.Cond.fieldLink "ScarArmy$Log" (18 : Nat) "ScarArmy$Log" "cells" "[I") ∈ pT := List.mem_filter.mpr ⟨(tb_0 (List.mem_of_getElem? (i := 229) rfl)), by decide +kernel⟩
set_option maxRecDepth 100000 in
theorem w_361 : (Jvm.Cond.fieldLink "ScarArmy$Army" (12 : Nat) "ScarArmy$Army" "battles" "LScarArmy$Battles;") ∈ pT := List.mem_filter.mpr ⟨(tb_0 (List.mem_of_getElem? (i := 237) rfl)), by decide +kernel⟩
set_option maxRecDepth 100000 in
theorem w_362 : (Jvm.Cond.fieldLink "ScarArmy$ArmyText" (43 : Nat) "ScarArmy$Army" "battles" "LScarArmy$Battles;") ∈ pT := List.mem_filter.mpr ⟨(tb_0 (List.mem_of_getElem? (i := 238) rfl)), by decide +kernel⟩
set_option maxRecDepth 100000 in
theorem w_363 : (Jvm.Cond.fieldLink "ScarArmy" (119 : Nat) "ScarArmy$Army" "battles" "LScarArmy$Battles;") ∈ pT := List.mem_filter.mpr ⟨(tb_0 (List.mem_of_getElem? (i := 239) rfl)), by decide +kernel⟩
set_option maxRecDepth 100000 in
theorem w_364 : (Jvm.Cond.fieldLink "ScarArmy$Search" (83 : Nat) "ScarArmy$Army" "battles" "LScarArmy$Battles;") ∈ pT := List.mem_filter.mpr ⟨(tb_1 (List.mem_of_getElem? (i := 0) rfl)), by decide +kernel⟩
set_option maxRecDepth 100000 in
theorem w_365 : (Jvm.Cond.fieldLink "ScarArmy$Army" (21 : Nat) "ScarArmy$Army" "men" "LScarArmy$Men;") ∈ pT := List.mem_filter.mpr ⟨(tb_1 (List.mem_of_getElem? (i := 1) rfl)), by decide +kernel⟩
set_option maxRecDepth 100000 in
theorem w_366 : (Jvm.Cond.fieldLink "ScarArmy$ArmyText" (55 : Nat) "ScarArmy$Army" "men" "LScarArmy$Men;") ∈ pT := List.mem_filter.mpr ⟨(tb_1 (List.mem_of_getElem? (i := 2) rfl)), by decide +kernel⟩
set_option maxRecDepth 100000 in
theorem w_367 : (Jvm.Cond.fieldLink "ScarArmy" (162 : Nat) "ScarArmy$Army" "men" "LScarArmy$Men;") ∈ pT := List.mem_filter.mpr ⟨(tb_1 (List.mem_of_getElem? (i := 3) rfl)), by decide +kernel⟩
set_option maxRecDepth 100000 in
theorem w_368 : (Jvm.Cond.fieldLink "ScarArmy$Search" (95 : Nat) "ScarArmy$Army" "men" "LScarArmy$Men;") ∈ pT := List.mem_filter.mpr ⟨(tb_1 (List.mem_of_getElem? (i := 4) rfl)), by decide +kernel⟩
set_option maxRecDepth 100000 in
theorem w_369 : (Jvm.Cond.fieldLink "ScarArmy$Army" (28 : Nat) "ScarArmy$Army" "scars" "LScarArmy$Scars;") ∈ pT := List.mem_filter.mpr ⟨(tb_1 (List.mem_of_getElem? (i := 5) rfl)), by decide +kernel⟩
set_option maxRecDepth 100000 in
theorem w_370 : (Jvm.Cond.fieldLink "ScarArmy$ArmyText" (70 : Nat) "ScarArmy$Army" "scars" "LScarArmy$Scars;") ∈ pT := List.mem_filter.mpr ⟨(tb_1 (List.mem_of_getElem? (i := 6) rfl)), by decide +kernel⟩
set_option maxRecDepth 100000 in
theorem w_371 : (Jvm.Cond.fieldLink "ScarArmy" (135 : Nat) "ScarArmy$Army" "scars" "LScarArmy$Scars;") ∈ pT := List.mem_filter.mpr ⟨(tb_1 (List.mem_of_getElem? (i := 7) rfl)), by decide +kernel⟩
set_option maxRecDepth 100000 in
theorem w_372 : (Jvm.Cond.fieldLink "ScarArmy$Search" (74 : Nat) "ScarArmy$Army" "scars" "LScarArmy$Scars;") ∈ pT := List.mem_filter.mpr ⟨(tb_1 (List.mem_of_getElem? (i := 8) rfl)), by decide +kernel⟩
set_option maxRecDepth 100000 in
theorem w_373 : (Jvm.Cond.fieldLink "ScarArmy$Army" (35 : Nat) "ScarArmy$Army" "log" "LScarArmy$Log;") ∈ pT := List.mem_filter.mpr ⟨(tb_1 (List.mem_of_getElem? (i := 9) rfl)), by decide +kernel⟩
set_option maxRecDepth 100000 in
theorem w_374 : (Jvm.Cond.fieldLink "ScarArmy" (373 : Nat) "ScarArmy$Army" "log" "LScarArmy$Log;") ∈ pT := List.mem_filter.mpr ⟨(tb_1 (List.mem_of_getElem? (i := 10) rfl)), by decide +kernel⟩
set_option maxRecDepth 100000 in
theorem w_375 : (Jvm.Cond.fieldLink "ScarArmy$Army" (39 : Nat) "ScarArmy$Army" "law" "LScarArmy$Law;") ∈ pT := List.mem_filter.mpr ⟨(tb_1 (List.mem_of_getElem? (i := 11) rfl)), by decide +kernel⟩
set_option maxRecDepth 100000 in
theorem w_376 : (Jvm.Cond.fieldLink "ScarArmy" (107 : Nat) "ScarArmy$Army" "law" "LScarArmy$Law;") ∈ pT := List.mem_filter.mpr ⟨(tb_1 (List.mem_of_getElem? (i := 12) rfl)), by decide +kernel⟩
set_option maxRecDepth 100000 in
theorem w_377 : (Jvm.Cond.fieldLink "ScarArmy$Army" (43 : Nat) "ScarArmy$Army" "today" "I") ∈ pT := List.mem_filter.mpr ⟨(tb_1 (List.mem_of_getElem? (i := 13) rfl)), by decide +kernel⟩
set_option maxRecDepth 100000 in
theorem w_378 : (Jvm.Cond.fieldLink "ScarArmy$ArmyText" (87 : Nat) "ScarArmy$Army" "today" "I") ∈ pT := List.mem_filter.mpr ⟨(tb_1 (List.mem_of_getElem? (i := 14) rfl)), by decide +kernel⟩
set_option maxRecDepth 100000 in
theorem w_379 : (Jvm.Cond.fieldLink "ScarArmy" (429 : Nat) "ScarArmy$Army" "today" "I") ∈ pT := List.mem_filter.mpr ⟨(tb_1 (List.mem_of_getElem? (i := 15) rfl)), by decide +kernel⟩
set_option maxRecDepth 100000 in
theorem w_380 : (Jvm.Cond.fieldLink "ScarArmy$Army" (47 : Nat) "ScarArmy$Army" "seed" "I") ∈ pT := List.mem_filter.mpr ⟨(tb_1 (List.mem_of_getElem? (i := 16) rfl)), by decide +kernel⟩
set_option maxRecDepth 100000 in
theorem w_381 : (Jvm.Cond.fieldLink "ScarArmy" (404 : Nat) "ScarArmy$Army" "seed" "I") ∈ pT := List.mem_filter.mpr ⟨(tb_1 (List.mem_of_getElem? (i := 17) rfl)), by decide +kernel⟩
set_option maxRecDepth 100000 in
theorem w_382 : (Jvm.Cond.fieldLink "ScarArmy$Army" (50 : Nat) "ScarArmy$Army" "texts" "I") ∈ pT := List.mem_filter.mpr ⟨(tb_1 (List.mem_of_getElem? (i := 18) rfl)), by decide +kernel⟩
set_option maxRecDepth 100000 in
theorem w_383 : (Jvm.Cond.fieldLink "ScarArmy" (89 : Nat) "ScarArmy$Army" "texts" "I") ∈ pT := List.mem_filter.mpr ⟨(tb_1 (List.mem_of_getElem? (i := 19) rfl)), by decide +kernel⟩
set_option maxRecDepth 100000 in
theorem w_384 : (Jvm.Cond.fieldLink "ScarArmy$Army" (55 : Nat) "ScarArmy$Army" "facts" "[I") ∈ pT := List.mem_filter.mpr ⟨(tb_1 (List.mem_of_getElem? (i := 20) rfl)), by decide +kernel⟩
set_option maxRecDepth 100000 in
theorem w_404 : (Jvm.Cond.classLink "ScarArmy" (45 : Nat) "ScarArmy$Memory") ∈ pT := List.mem_filter.mpr ⟨(tb_1 (List.mem_of_getElem? (i := 40) rfl)), by decide +kernel⟩
set_option maxRecDepth 100000 in
theorem w_405 : (Jvm.Cond.instantiable "ScarArmy$Memory" (3 : Nat)) ∈ pT := List.mem_filter.mpr ⟨(tb_1 (List.mem_of_getElem? (i := 41) rfl)), by decide +kernel⟩
set_option maxRecDepth 100000 in
theorem w_406 : (Jvm.Cond.methodLink "ScarArmy" (47 : Nat) ({ cls := "ScarArmy$Memory", name := "<init>", desc := "()V" } : Jvm.MethodName)) ∈ pT := List.mem_filter.mpr ⟨(tb_1 (List.mem_of_getElem? (i := 42) rfl)), by decide +kernel⟩
set_option maxRecDepth 100000 in
theorem w_407 : (Jvm.Cond.instanceMethod ({ cls := "ScarArmy$Memory", name := "<init>", desc := "()V" } : Jvm.MethodName)) ∈ pT := List.mem_filter.mpr ⟨(tb_1 (List.mem_of_getElem? (i := 43) rfl)), by decide +kernel⟩
set_option maxRecDepth 100000 in
theorem w_408 : (Jvm.Cond.code ({ cls := "ScarArmy$Memory", name := "<init>", desc := "()V" } : Jvm.MethodName) prog_8_method_1_code (2 : Nat) (Option.none : Option Jvm.ClassFile.FieldType)) ∈ pT := List.mem_filter.mpr ⟨(tb_1 (List.mem_of_getElem? (i := 44) rfl)), by decide +kernel⟩
set_option maxRecDepth 100000 in
theorem w_409 : (Jvm.Cond.methodLink "ScarArmy$Memory" (3 : Nat) ({ cls := "java/lang/Object", name := "<init>", desc := "()V" } : Jvm.MethodName)) ∈ pT := List.mem_filter.mpr ⟨(tb_1 (List.mem_of_getElem? (i := 45) rfl)), by decide +kernel⟩
set_option maxRecDepth 100000 in
theorem w_410 : (Jvm.Cond.classLink "ScarArmy$Memory" (18 : Nat) "ScarArmy$Army") ∈ pT := List.mem_filter.mpr ⟨(tb_1 (List.mem_of_getElem? (i := 46) rfl)), by decide +kernel⟩
set_option maxRecDepth 100000 in
theorem w_413 : (Jvm.Cond.fieldLink "ScarArmy$Memory" (9 : Nat) "ScarArmy$Memory" "size" "I") ∈ pT := List.mem_filter.mpr ⟨(tb_1 (List.mem_of_getElem? (i := 49) rfl)), by decide +kernel⟩
set_option maxRecDepth 100000 in
theorem w_414 : (Jvm.Cond.fieldLink "ScarArmy" (439 : Nat) "ScarArmy$Memory" "size" "I") ∈ pT := List.mem_filter.mpr ⟨(tb_1 (List.mem_of_getElem? (i := 50) rfl)), by decide +kernel⟩
set_option maxRecDepth 100000 in
theorem w_415 : (Jvm.Cond.fieldLink "ScarArmy$Memory" (15 : Nat) "ScarArmy$Memory" "next" "I") ∈ pT := List.mem_filter.mpr ⟨(tb_1 (List.mem_of_getElem? (i := 51) rfl)), by decide +kernel⟩
set_option maxRecDepth 100000 in
theorem w_416 : (Jvm.Cond.fieldLink "ScarArmy$Memory" (20 : Nat) "ScarArmy$Memory" "ahead" "[LScarArmy$Army;") ∈ pT := List.mem_filter.mpr ⟨(tb_1 (List.mem_of_getElem? (i := 52) rfl)), by decide +kernel⟩
set_option maxRecDepth 100000 in
theorem w_424 : (Jvm.Cond.classLink "ScarArmy" (52 : Nat) "ScarArmy$Search") ∈ pT := List.mem_filter.mpr ⟨(tb_1 (List.mem_of_getElem? (i := 60) rfl)), by decide +kernel⟩
set_option maxRecDepth 100000 in
theorem w_425 : (Jvm.Cond.instantiable "ScarArmy$Search" (10 : Nat)) ∈ pT := List.mem_filter.mpr ⟨(tb_1 (List.mem_of_getElem? (i := 61) rfl)), by decide +kernel⟩
set_option maxRecDepth 100000 in
theorem w_427 : (Jvm.Cond.instanceMethod ({ cls := "ScarArmy$Search", name := "<init>", desc := "()V" } : Jvm.MethodName)) ∈ pT := List.mem_filter.mpr ⟨(tb_1 (List.mem_of_getElem? (i := 63) rfl)), by decide +kernel⟩
set_option maxRecDepth 100000 in
theorem w_428 : (Jvm.Cond.code ({ cls := "ScarArmy$Search", name := "<init>", desc := "()V" } : Jvm.MethodName) prog_11_method_1_code (1 : Nat) (Option.none : Option Jvm.ClassFile.FieldType)) ∈ pT := List.mem_filter.mpr ⟨(tb_1 (List.mem_of_getElem? (i := 64) rfl)), by decide +kernel⟩
set_option maxRecDepth 100000 in
theorem w_429 : (Jvm.Cond.methodLink "ScarArmy$Search" (3 : Nat) ({ cls := "java/lang/Object", name := "<init>", desc := "()V" } : Jvm.MethodName)) ∈ pT := List.mem_filter.mpr ⟨(tb_1 (List.mem_of_getElem? (i := 65) rfl)), by decide +kernel⟩
set_option maxRecDepth 100000 in
theorem w_430 : (Jvm.Cond.fieldLink "ScarArmy$Search" (9 : Nat) "ScarArmy$Search" "meant" "[I") ∈ pT := List.mem_filter.mpr ⟨(tb_1 (List.mem_of_getElem? (i := 66) rfl)), by decide +kernel⟩
set_option maxRecDepth 100000 in
theorem w_431 : (Jvm.Cond.fieldLink "ScarArmy" (347 : Nat) "ScarArmy$Search" "meant" "[I") ∈ pT := List.mem_filter.mpr ⟨(tb_1 (List.mem_of_getElem? (i := 67) rfl)), by decide +kernel⟩
set_option maxRecDepth 100000 in
theorem w_432 : (Jvm.Cond.fieldLink "ScarArmy$Search" (15 : Nat) "ScarArmy$Search" "enemyOf" "[I") ∈ pT := List.mem_filter.mpr ⟨(tb_1 (List.mem_of_getElem? (i := 68) rfl)), by decide +kernel⟩
set_option maxRecDepth 100000 in
theorem w_433 : (Jvm.Cond.fieldLink "ScarArmy$Search" (18 : Nat) "ScarArmy$Search" "asked" "I") ∈ pT := List.mem_filter.mpr ⟨(tb_1 (List.mem_of_getElem? (i := 69) rfl)), by decide +kernel⟩
set_option maxRecDepth 100000 in
theorem w_434 : (Jvm.Cond.fieldLink "ScarArmy$Search" (22 : Nat) "ScarArmy$Search" "fought" "[I") ∈ pT := List.mem_filter.mpr ⟨(tb_1 (List.mem_of_getElem? (i := 70) rfl)), by decide +kernel⟩
set_option maxRecDepth 100000 in
theorem w_435 : (Jvm.Cond.fieldLink "ScarArmy$Search" (25 : Nat) "ScarArmy$Search" "member" "[I") ∈ pT := List.mem_filter.mpr ⟨(tb_1 (List.mem_of_getElem? (i := 71) rfl)), by decide +kernel⟩
set_option maxRecDepth 100000 in
theorem w_436 : (Jvm.Cond.fieldLink "ScarArmy$Search" (28 : Nat) "ScarArmy$Search" "clash" "[I") ∈ pT := List.mem_filter.mpr ⟨(tb_1 (List.mem_of_getElem? (i := 72) rfl)), by decide +kernel⟩
set_option maxRecDepth 100000 in
theorem w_437 : (Jvm.Cond.fieldLink "ScarArmy$Search" (31 : Nat) "ScarArmy$Search" "worth" "[I") ∈ pT := List.mem_filter.mpr ⟨(tb_1 (List.mem_of_getElem? (i := 73) rfl)), by decide +kernel⟩
set_option maxRecDepth 100000 in
theorem w_438 : (Jvm.Cond.fieldLink "ScarArmy$Search" (34 : Nat) "ScarArmy$Search" "price" "[I") ∈ pT := List.mem_filter.mpr ⟨(tb_1 (List.mem_of_getElem? (i := 74) rfl)), by decide +kernel⟩
set_option maxRecDepth 100000 in
theorem w_439 : (Jvm.Cond.fieldLink "ScarArmy$Search" (37 : Nat) "ScarArmy$Search" "bestPay" "I") ∈ pT := List.mem_filter.mpr ⟨(tb_1 (List.mem_of_getElem? (i := 75) rfl)), by decide +kernel⟩
set_option maxRecDepth 100000 in
theorem w_440 : (Jvm.Cond.fieldLink "ScarArmy$Search" (40 : Nat) "ScarArmy$Search" "bestSet" "I") ∈ pT := List.mem_filter.mpr ⟨(tb_1 (List.mem_of_getElem? (i := 76) rfl)), by decide +kernel⟩
set_option maxRecDepth 100000 in
theorem w_462 : (Jvm.Cond.fieldLink "ScarArmy" (10 : Nat) "ScarArmy" "tape" "LScarArmy$Tape;") ∈ pT := List.mem_filter.mpr ⟨(tb_1 (List.mem_of_getElem? (i := 98) rfl)), by decide +kernel⟩
set_option maxRecDepth 100000 in
theorem w_463 : (Jvm.Cond.fieldLink "ScarArmy" (21 : Nat) "ScarArmy" "armyText" "LScarArmy$ArmyText;") ∈ pT := List.mem_filter.mpr ⟨(tb_1 (List.mem_of_getElem? (i := 99) rfl)), by decide +kernel⟩
set_option maxRecDepth 100000 in
theorem w_464 : (Jvm.Cond.fieldLink "ScarArmy" (28 : Nat) "ScarArmy" "lawText" "LScarArmy$LawText;") ∈ pT := List.mem_filter.mpr ⟨(tb_1 (List.mem_of_getElem? (i := 100) rfl)), by decide +kernel⟩
set_option maxRecDepth 100000 in
theorem w_465 : (Jvm.Cond.fieldLink "ScarArmy" (35 : Nat) "ScarArmy" "now" "LScarArmy$Army;") ∈ pT := List.mem_filter.mpr ⟨(tb_1 (List.mem_of_getElem? (i := 101) rfl)), by decide +kernel⟩
set_option maxRecDepth 100000 in
theorem w_466 : (Jvm.Cond.fieldLink "ScarArmy" (39 : Nat) "ScarArmy" "kept" "LScarArmy$Army;") ∈ pT := List.mem_filter.mpr ⟨(tb_1 (List.mem_of_getElem? (i := 102) rfl)), by decide +kernel⟩
set_option maxRecDepth 100000 in
theorem w_467 : (Jvm.Cond.fieldLink "ScarArmy" (42 : Nat) "ScarArmy" "draft" "LScarArmy$Army;") ∈ pT := List.mem_filter.mpr ⟨(tb_1 (List.mem_of_getElem? (i := 103) rfl)), by decide +kernel⟩
set_option maxRecDepth 100000 in
theorem w_468 : (Jvm.Cond.fieldLink "ScarArmy" (48 : Nat) "ScarArmy" "memory" "LScarArmy$Memory;") ∈ pT := List.mem_filter.mpr ⟨(tb_1 (List.mem_of_getElem? (i := 104) rfl)), by decide +kernel⟩
set_option maxRecDepth 100000 in
theorem w_469 : (Jvm.Cond.fieldLink "ScarArmy" (55 : Nat) "ScarArmy" "search" "LScarArmy$Search;") ∈ pT := List.mem_filter.mpr ⟨(tb_1 (List.mem_of_getElem? (i := 105) rfl)), by decide +kernel⟩
set_option maxRecDepth 100000 in
theorem w_470 : (Jvm.Cond.fieldLink "ScarArmy" (59 : Nat) "ScarArmy" "imageKept" "Z") ∈ pT := List.mem_filter.mpr ⟨(tb_1 (List.mem_of_getElem? (i := 106) rfl)), by decide +kernel⟩
set_option maxRecDepth 100000 in
theorem w_471 : (Jvm.Cond.fieldLink "ScarArmy" (63 : Nat) "ScarArmy" "wrongByte" "I") ∈ pT := List.mem_filter.mpr ⟨(tb_1 (List.mem_of_getElem? (i := 107) rfl)), by decide +kernel⟩
set_option maxRecDepth 100000 in
theorem w_496 : (Jvm.Cond.code ({ cls := "ScarArmy", name := "feed", desc := "(IIIII)I" } : Jvm.MethodName) prog_1_method_2_code (6 : Nat) (Option.some Jvm.ClassFile.FieldType.int)) ∈ pT := List.mem_filter.mpr ⟨(tb_1 (List.mem_of_getElem? (i := 132) rfl)), by decide +kernel⟩
set_option maxRecDepth 100000 in
theorem w_497 : (Jvm.Cond.methodLink "ScarArmy" (70 : Nat) ({ cls := "ScarArmy$Tape", name := "put", desc := "(I)V" } : Jvm.MethodName)) ∈ pT := List.mem_filter.mpr ⟨(tb_1 (List.mem_of_getElem? (i := 133) rfl)), by decide +kernel⟩
set_option maxRecDepth 100000 in
theorem w_498 : (Jvm.Cond.instanceMethod ({ cls := "ScarArmy$Tape", name := "put", desc := "(I)V" } : Jvm.MethodName)) ∈ pT := List.mem_filter.mpr ⟨(tb_1 (List.mem_of_getElem? (i := 134) rfl)), by decide +kernel⟩
set_option maxRecDepth 100000 in
theorem w_499 : (Jvm.Cond.selects "ScarArmy$Tape" ({ cls := "ScarArmy$Tape", name := "put", desc := "(I)V" } : Jvm.MethodName) ({ cls := "ScarArmy$Tape", name := "put", desc := "(I)V" } : Jvm.MethodName)) ∈ pT := List.mem_filter.mpr ⟨(tb_1 (List.mem_of_getElem? (i := 135) rfl)), by decide +kernel⟩
set_option maxRecDepth 100000 in
theorem w_500 : (Jvm.Cond.code ({ cls := "ScarArmy$Tape", name := "put", desc := "(I)V" } : Jvm.MethodName) prog_12_method_2_code (3 : Nat) (Option.none : Option Jvm.ClassFile.FieldType)) ∈ pT := List.mem_filter.mpr ⟨(tb_1 (List.mem_of_getElem? (i := 136) rfl)), by decide +kernel⟩
set_option maxRecDepth 100000 in
theorem w_504 : (Jvm.Cond.code ({ cls := "ScarArmy", name := "end", desc := "(I)Z" } : Jvm.MethodName) prog_1_method_3_code (2 : Nat) (Option.some Jvm.ClassFile.FieldType.boolean)) ∈ pT := List.mem_filter.mpr ⟨(tb_1 (List.mem_of_getElem? (i := 140) rfl)), by decide +kernel⟩
set_option maxRecDepth 100000 in
theorem w_508 : (Jvm.Cond.code ({ cls := "ScarArmy", name := "fault", desc := "()I" } : Jvm.MethodName) prog_1_method_6_code (1 : Nat) (Option.some Jvm.ClassFile.FieldType.int)) ∈ pT := List.mem_filter.mpr ⟨(tb_1 (List.mem_of_getElem? (i := 144) rfl)), by decide +kernel⟩
set_option maxRecDepth 100000 in
theorem w_512 : (Jvm.Cond.code ({ cls := "ScarArmy", name := "swaps", desc := "()I" } : Jvm.MethodName) prog_1_method_18_code (1 : Nat) (Option.some Jvm.ClassFile.FieldType.int)) ∈ pT := List.mem_filter.mpr ⟨(tb_1 (List.mem_of_getElem? (i := 148) rfl)), by decide +kernel⟩
set_option maxRecDepth 100000 in
theorem w_513 : (Jvm.Cond.methodLink "ScarArmy" (301 : Nat) ({ cls := "ScarArmy$Men", name := "swapsBack", desc := "()I" } : Jvm.MethodName)) ∈ pT := List.mem_filter.mpr ⟨(tb_1 (List.mem_of_getElem? (i := 149) rfl)), by decide +kernel⟩
set_option maxRecDepth 100000 in
theorem w_514 : (Jvm.Cond.instanceMethod ({ cls := "ScarArmy$Men", name := "swapsBack", desc := "()I" } : Jvm.MethodName)) ∈ pT := List.mem_filter.mpr ⟨(tb_1 (List.mem_of_getElem? (i := 150) rfl)), by decide +kernel⟩
set_option maxRecDepth 100000 in
theorem w_515 : (Jvm.Cond.selects "ScarArmy$Men" ({ cls := "ScarArmy$Men", name := "swapsBack", desc := "()I" } : Jvm.MethodName) ({ cls := "ScarArmy$Men", name := "swapsBack", desc := "()I" } : Jvm.MethodName)) ∈ pT := List.mem_filter.mpr ⟨(tb_1 (List.mem_of_getElem? (i := 151) rfl)), by decide +kernel⟩
set_option maxRecDepth 100000 in
theorem w_516 : (Jvm.Cond.code ({ cls := "ScarArmy$Men", name := "swapsBack", desc := "()I" } : Jvm.MethodName) prog_9_method_12_code (4 : Nat) (Option.some Jvm.ClassFile.FieldType.int)) ∈ pT := List.mem_filter.mpr ⟨(tb_1 (List.mem_of_getElem? (i := 152) rfl)), by decide +kernel⟩
set_option maxRecDepth 100000 in
theorem w_517 : (Jvm.Cond.methodLink "ScarArmy$Men" (37 : Nat) ({ cls := "ScarArmy$Men", name := "cycleOf", desc := "(I)I" } : Jvm.MethodName)) ∈ pT := List.mem_filter.mpr ⟨(tb_1 (List.mem_of_getElem? (i := 153) rfl)), by decide +kernel⟩
set_option maxRecDepth 100000 in
theorem w_518 : (Jvm.Cond.instanceMethod ({ cls := "ScarArmy$Men", name := "cycleOf", desc := "(I)I" } : Jvm.MethodName)) ∈ pT := List.mem_filter.mpr ⟨(tb_1 (List.mem_of_getElem? (i := 154) rfl)), by decide +kernel⟩
set_option maxRecDepth 100000 in
theorem w_519 : (Jvm.Cond.selects "ScarArmy$Men" ({ cls := "ScarArmy$Men", name := "cycleOf", desc := "(I)I" } : Jvm.MethodName) ({ cls := "ScarArmy$Men", name := "cycleOf", desc := "(I)I" } : Jvm.MethodName)) ∈ pT := List.mem_filter.mpr ⟨(tb_1 (List.mem_of_getElem? (i := 155) rfl)), by decide +kernel⟩
set_option maxRecDepth 100000 in
theorem w_520 : (Jvm.Cond.code ({ cls := "ScarArmy$Men", name := "cycleOf", desc := "(I)I" } : Jvm.MethodName) prog_9_method_11_code (5 : Nat) (Option.some Jvm.ClassFile.FieldType.int)) ∈ pT := List.mem_filter.mpr ⟨(tb_1 (List.mem_of_getElem? (i := 156) rfl)), by decide +kernel⟩
set_option maxRecDepth 100000 in
theorem w_524 : (Jvm.Cond.code ({ cls := "ScarArmy", name := "his", desc := "(I)Z" } : Jvm.MethodName) prog_1_method_19_code (2 : Nat) (Option.some Jvm.ClassFile.FieldType.boolean)) ∈ pT := List.mem_filter.mpr ⟨(tb_1 (List.mem_of_getElem? (i := 160) rfl)), by decide +kernel⟩
set_option maxRecDepth 100000 in
theorem w_525 : (Jvm.Cond.methodLink "ScarArmy" (304 : Nat) ({ cls := "ScarArmy$Scars", name := "all", desc := "()I" } : Jvm.MethodName)) ∈ pT := List.mem_filter.mpr ⟨(tb_1 (List.mem_of_getElem? (i := 161) rfl)), by decide +kernel⟩
set_option maxRecDepth 100000 in
theorem w_526 : (Jvm.Cond.instanceMethod ({ cls := "ScarArmy$Scars", name := "all", desc := "()I" } : Jvm.MethodName)) ∈ pT := List.mem_filter.mpr ⟨(tb_1 (List.mem_of_getElem? (i := 162) rfl)), by decide +kernel⟩
set_option maxRecDepth 100000 in
theorem w_527 : (Jvm.Cond.selects "ScarArmy$Scars" ({ cls := "ScarArmy$Scars", name := "all", desc := "()I" } : Jvm.MethodName) ({ cls := "ScarArmy$Scars", name := "all", desc := "()I" } : Jvm.MethodName)) ∈ pT := List.mem_filter.mpr ⟨(tb_1 (List.mem_of_getElem? (i := 163) rfl)), by decide +kernel⟩
set_option maxRecDepth 100000 in
theorem w_528 : (Jvm.Cond.code ({ cls := "ScarArmy$Scars", name := "all", desc := "()I" } : Jvm.MethodName) prog_10_method_4_code (1 : Nat) (Option.some Jvm.ClassFile.FieldType.int)) ∈ pT := List.mem_filter.mpr ⟨(tb_1 (List.mem_of_getElem? (i := 164) rfl)), by decide +kernel⟩
set_option maxRecDepth 100000 in
theorem w_529 : (Jvm.Cond.methodLink "ScarArmy" (307 : Nat) ({ cls := "ScarArmy$Search", name := "areAllHis", desc := "(LScarArmy$Army;I)Z" } : Jvm.MethodName)) ∈ pT := List.mem_filter.mpr ⟨(tb_1 (List.mem_of_getElem? (i := 165) rfl)), by decide +kernel⟩
set_option maxRecDepth 100000 in
theorem w_530 : (Jvm.Cond.instanceMethod ({ cls := "ScarArmy$Search", name := "areAllHis", desc := "(LScarArmy$Army;I)Z" } : Jvm.MethodName)) ∈ pT := List.mem_filter.mpr ⟨(tb_1 (List.mem_of_getElem? (i := 166) rfl)), by decide +kernel⟩
set_option maxRecDepth 100000 in
theorem w_531 : (Jvm.Cond.selects "ScarArmy$Search" ({ cls := "ScarArmy$Search", name := "areAllHis", desc := "(LScarArmy$Army;I)Z" } : Jvm.MethodName) ({ cls := "ScarArmy$Search", name := "areAllHis", desc := "(LScarArmy$Army;I)Z" } : Jvm.MethodName)) ∈ pT := List.mem_filter.mpr ⟨(tb_1 (List.mem_of_getElem? (i := 167) rfl)), by decide +kernel⟩
set_option maxRecDepth 100000 in
theorem w_532 : (Jvm.Cond.code ({ cls := "ScarArmy$Search", name := "areAllHis", desc := "(LScarArmy$Army;I)Z" } : Jvm.MethodName) prog_11_method_2_code (4 : Nat) (Option.some Jvm.ClassFile.FieldType.boolean)) ∈ pT := List.mem_filter.mpr ⟨(tb_1 (List.mem_of_getElem? (i := 168) rfl)), by decide +kernel⟩
set_option maxRecDepth 100000 in
theorem w_533 : (Jvm.Cond.methodLink "ScarArmy$Search" (43 : Nat) ({ cls := "ScarArmy$Search", name := "listClashes", desc := "(LScarArmy$Army;I)I" } : Jvm.MethodName)) ∈ pT := List.mem_filter.mpr ⟨(tb_1 (List.mem_of_getElem? (i := 169) rfl)), by decide +kernel⟩
set_option maxRecDepth 100000 in
theorem w_535 : (Jvm.Cond.instanceMethod ({ cls := "ScarArmy$Search", name := "listClashes", desc := "(LScarArmy$Army;I)I" } : Jvm.MethodName)) ∈ pT := List.mem_filter.mpr ⟨(tb_1 (List.mem_of_getElem? (i := 171) rfl)), by decide +kernel⟩
set_option maxRecDepth 100000 in
theorem w_536 : (Jvm.Cond.code ({ cls := "ScarArmy$Search", name := "listClashes", desc := "(LScarArmy$Army;I)I" } : Jvm.MethodName) prog_11_method_7_code (6 : Nat) (Option.some Jvm.ClassFile.FieldType.int)) ∈ pT := List.mem_filter.mpr ⟨(tb_1 (List.mem_of_getElem? (i := 172) rfl)), by decide +kernel⟩
set_option maxRecDepth 100000 in
theorem w_537 : (Jvm.Cond.methodLink "ScarArmy$Search" (61 : Nat) ({ cls := "ScarArmy$Search", name := "listMembers", desc := "(I)I" } : Jvm.MethodName)) ∈ pT := List.mem_filter.mpr ⟨(tb_1 (List.mem_of_getElem? (i := 173) rfl)), by decide +kernel⟩
set_option maxRecDepth 100000 in
theorem w_539 : (Jvm.Cond.instanceMethod ({ cls := "ScarArmy$Search", name := "listMembers", desc := "(I)I" } : Jvm.MethodName)) ∈ pT := List.mem_filter.mpr ⟨(tb_1 (List.mem_of_getElem? (i := 175) rfl)), by decide +kernel⟩
set_option maxRecDepth 100000 in
theorem w_540 : (Jvm.Cond.code ({ cls := "ScarArmy$Search", name := "listMembers", desc := "(I)I" } : Jvm.MethodName) prog_11_method_5_code (4 : Nat) (Option.some Jvm.ClassFile.FieldType.int)) ∈ pT := List.mem_filter.mpr ⟨(tb_1 (List.mem_of_getElem? (i := 176) rfl)), by decide +kernel⟩
set_option maxRecDepth 100000 in
theorem w_541 : (Jvm.Cond.methodLink "ScarArmy$Search" (64 : Nat) ({ cls := "ScarArmy$Army", name := "isVoid", desc := "(I)Z" } : Jvm.MethodName)) ∈ pT := List.mem_filter.mpr ⟨(tb_1 (List.mem_of_getElem? (i := 177) rfl)), by decide +kernel⟩
set_option maxRecDepth 100000 in
theorem w_542 : (Jvm.Cond.instanceMethod ({ cls := "ScarArmy$Army", name := "isVoid", desc := "(I)Z" } : Jvm.MethodName)) ∈ pT := List.mem_filter.mpr ⟨(tb_1 (List.mem_of_getElem? (i := 178) rfl)), by decide +kernel⟩
set_option maxRecDepth 100000 in
theorem w_543 : (Jvm.Cond.selects "ScarArmy$Army" ({ cls := "ScarArmy$Army", name := "isVoid", desc := "(I)Z" } : Jvm.MethodName) ({ cls := "ScarArmy$Army", name := "isVoid", desc := "(I)Z" } : Jvm.MethodName)) ∈ pT := List.mem_filter.mpr ⟨(tb_1 (List.mem_of_getElem? (i := 179) rfl)), by decide +kernel⟩
set_option maxRecDepth 100000 in
theorem w_544 : (Jvm.Cond.code ({ cls := "ScarArmy$Army", name := "isVoid", desc := "(I)Z" } : Jvm.MethodName) prog_2_method_5_code (2 : Nat) (Option.some Jvm.ClassFile.FieldType.boolean)) ∈ pT := List.mem_filter.mpr ⟨(tb_1 (List.mem_of_getElem? (i := 180) rfl)), by decide +kernel⟩
set_option maxRecDepth 100000 in
theorem w_545 : (Jvm.Cond.methodLink "ScarArmy$Army" (107 : Nat) ({ cls := "ScarArmy$Army", name := "judgedOn", desc := "(II)I" } : Jvm.MethodName)) ∈ pT := List.mem_filter.mpr ⟨(tb_1 (List.mem_of_getElem? (i := 181) rfl)), by decide +kernel⟩
set_option maxRecDepth 100000 in
theorem w_546 : (Jvm.Cond.instanceMethod ({ cls := "ScarArmy$Army", name := "judgedOn", desc := "(II)I" } : Jvm.MethodName)) ∈ pT := List.mem_filter.mpr ⟨(tb_1 (List.mem_of_getElem? (i := 182) rfl)), by decide +kernel⟩
set_option maxRecDepth 100000 in
theorem w_547 : (Jvm.Cond.selects "ScarArmy$Army" ({ cls := "ScarArmy$Army", name := "judgedOn", desc := "(II)I" } : Jvm.MethodName) ({ cls := "ScarArmy$Army", name := "judgedOn", desc := "(II)I" } : Jvm.MethodName)) ∈ pT := List.mem_filter.mpr ⟨(tb_1 (List.mem_of_getElem? (i := 183) rfl)), by decide +kernel⟩
set_option maxRecDepth 100000 in
theorem w_548 : (Jvm.Cond.code ({ cls := "ScarArmy$Army", name := "judgedOn", desc := "(II)I" } : Jvm.MethodName) prog_2_method_3_code (5 : Nat) (Option.some Jvm.ClassFile.FieldType.int)) ∈ pT := List.mem_filter.mpr ⟨(tb_1 (List.mem_of_getElem? (i := 184) rfl)), by decide +kernel⟩
set_option maxRecDepth 100000 in
theorem w_549 : (Jvm.Cond.methodLink "ScarArmy$Army" (96 : Nat) ({ cls := "ScarArmy$Scars", name := "earBit", desc := "(I)I" } : Jvm.MethodName)) ∈ pT := List.mem_filter.mpr ⟨(tb_1 (List.mem_of_getElem? (i := 185) rfl)), by decide +kernel⟩
set_option maxRecDepth 100000 in
theorem w_550 : (Jvm.Cond.instanceMethod ({ cls := "ScarArmy$Scars", name := "earBit", desc := "(I)I" } : Jvm.MethodName)) ∈ pT := List.mem_filter.mpr ⟨(tb_1 (List.mem_of_getElem? (i := 186) rfl)), by decide +kernel⟩
set_option maxRecDepth 100000 in
theorem w_551 : (Jvm.Cond.selects "ScarArmy$Scars" ({ cls := "ScarArmy$Scars", name := "earBit", desc := "(I)I" } : Jvm.MethodName) ({ cls := "ScarArmy$Scars", name := "earBit", desc := "(I)I" } : Jvm.MethodName)) ∈ pT := List.mem_filter.mpr ⟨(tb_1 (List.mem_of_getElem? (i := 187) rfl)), by decide +kernel⟩
set_option maxRecDepth 100000 in
theorem w_552 : (Jvm.Cond.code ({ cls := "ScarArmy$Scars", name := "earBit", desc := "(I)I" } : Jvm.MethodName) prog_10_method_18_code (2 : Nat) (Option.some Jvm.ClassFile.FieldType.int)) ∈ pT := List.mem_filter.mpr ⟨(tb_1 (List.mem_of_getElem? (i := 188) rfl)), by decide +kernel⟩
set_option maxRecDepth 100000 in
theorem w_553 : (Jvm.Cond.methodLink "ScarArmy$Army" (100 : Nat) ({ cls := "ScarArmy$Law", name := "judge", desc := "([I)I" } : Jvm.MethodName)) ∈ pT := List.mem_filter.mpr ⟨(tb_1 (List.mem_of_getElem? (i := 189) rfl)), by decide +kernel⟩
set_option maxRecDepth 100000 in
theorem w_554 : (Jvm.Cond.instanceMethod ({ cls := "ScarArmy$Law", name := "judge", desc := "([I)I" } : Jvm.MethodName)) ∈ pT := List.mem_filter.mpr ⟨(tb_1 (List.mem_of_getElem? (i := 190) rfl)), by decide +kernel⟩
set_option maxRecDepth 100000 in
theorem w_555 : (Jvm.Cond.selects "ScarArmy$Law" ({ cls := "ScarArmy$Law", name := "judge", desc := "([I)I" } : Jvm.MethodName) ({ cls := "ScarArmy$Law", name := "judge", desc := "([I)I" } : Jvm.MethodName)) ∈ pT := List.mem_filter.mpr ⟨(tb_1 (List.mem_of_getElem? (i := 191) rfl)), by decide +kernel⟩
set_option maxRecDepth 100000 in
theorem w_556 : (Jvm.Cond.code ({ cls := "ScarArmy$Law", name := "judge", desc := "([I)I" } : Jvm.MethodName) prog_5_method_2_code (8 : Nat) (Option.some Jvm.ClassFile.FieldType.int)) ∈ pT := List.mem_filter.mpr ⟨(tb_1 (List.mem_of_getElem? (i := 192) rfl)), by decide +kernel⟩
set_option maxRecDepth 100000 in
theorem w_557 : (Jvm.Cond.methodLink "ScarArmy$Law" (22 : Nat) ({ cls := "ScarArmy$Law", name := "holds", desc := "(II[I)Z" } : Jvm.MethodName)) ∈ pT := List.mem_filter.mpr ⟨(tb_1 (List.mem_of_getElem? (i := 193) rfl)), by decide +kernel⟩
set_option maxRecDepth 100000 in
theorem w_559 : (Jvm.Cond.instanceMethod ({ cls := "ScarArmy$Law", name := "holds", desc := "(II[I)Z" } : Jvm.MethodName)) ∈ pT := List.mem_filter.mpr ⟨(tb_1 (List.mem_of_getElem? (i := 195) rfl)), by decide +kernel⟩
set_option maxRecDepth 100000 in
theorem w_560 : (Jvm.Cond.instantiable "ScarArmy$Law" (3 : Nat)) ∈ pT := List.mem_filter.mpr ⟨(tb_1 (List.mem_of_getElem? (i := 196) rfl)), by decide +kernel⟩
set_option maxRecDepth 100000 in
theorem w_561 : (Jvm.Cond.code ({ cls := "ScarArmy$Law", name := "holds", desc := "(II[I)Z" } : Jvm.MethodName) prog_5_method_3_code (9 : Nat) (Option.some Jvm.ClassFile.FieldType.boolean)) ∈ pT := List.mem_filter.mpr ⟨(tb_1 (List.mem_of_getElem? (i := 197) rfl)), by decide +kernel⟩
set_option maxRecDepth 100000 in
theorem w_562 : (Jvm.Cond.methodLink "ScarArmy$Law" (26 : Nat) ({ cls := "java/lang/Math", name := "max", desc := "(II)I" } : Jvm.MethodName)) ∈ pT := List.mem_filter.mpr ⟨(tb_1 (List.mem_of_getElem? (i := 198) rfl)), by decide +kernel⟩
set_option maxRecDepth 100000 in
theorem w_563 : (Jvm.Cond.static ({ cls := "java/lang/Math", name := "max", desc := "(II)I" } : Jvm.MethodName)) ∈ pT := List.mem_filter.mpr ⟨(tb_1 (List.mem_of_getElem? (i := 199) rfl)), by decide +kernel⟩
set_option maxRecDepth 100000 in
theorem w_564 : (Jvm.Cond.code ({ cls := "java/lang/Math", name := "max", desc := "(II)I" } : Jvm.MethodName) prog_24_method_65_code (2 : Nat) (Option.some Jvm.ClassFile.FieldType.int)) ∈ pT := List.mem_filter.mpr ⟨(tb_1 (List.mem_of_getElem? (i := 200) rfl)), by decide +kernel⟩
set_option maxRecDepth 100000 in
theorem w_565 : (Jvm.Cond.methodLink "ScarArmy$Search" (70 : Nat) ({ cls := "ScarArmy$Search", name := "canBeOneMans", desc := "(LScarArmy$Army;II)Z" } : Jvm.MethodName)) ∈ pT := List.mem_filter.mpr ⟨(tb_1 (List.mem_of_getElem? (i := 201) rfl)), by decide +kernel⟩
set_option maxRecDepth 100000 in
theorem w_567 : (Jvm.Cond.instanceMethod ({ cls := "ScarArmy$Search", name := "canBeOneMans", desc := "(LScarArmy$Army;II)Z" } : Jvm.MethodName)) ∈ pT := List.mem_filter.mpr ⟨(tb_1 (List.mem_of_getElem? (i := 203) rfl)), by decide +kernel⟩
set_option maxRecDepth 100000 in
theorem w_568 : (Jvm.Cond.code ({ cls := "ScarArmy$Search", name := "canBeOneMans", desc := "(LScarArmy$Army;II)Z" } : Jvm.MethodName) prog_11_method_8_code (5 : Nat) (Option.some Jvm.ClassFile.FieldType.boolean)) ∈ pT := List.mem_filter.mpr ⟨(tb_1 (List.mem_of_getElem? (i := 204) rfl)), by decide +kernel⟩
set_option maxRecDepth 100000 in
theorem w_569 : (Jvm.Cond.methodLink "ScarArmy$Search" (90 : Nat) ({ cls := "ScarArmy$Battles", name := "canBeBoth", desc := "(II)Z" } : Jvm.MethodName)) ∈ pT := List.mem_filter.mpr ⟨(tb_1 (List.mem_of_getElem? (i := 205) rfl)), by decide +kernel⟩
set_option maxRecDepth 100000 in
theorem w_570 : (Jvm.Cond.instanceMethod ({ cls := "ScarArmy$Battles", name := "canBeBoth", desc := "(II)Z" } : Jvm.MethodName)) ∈ pT := List.mem_filter.mpr ⟨(tb_1 (List.mem_of_getElem? (i := 206) rfl)), by decide +kernel⟩
set_option maxRecDepth 100000 in
theorem w_571 : (Jvm.Cond.selects "ScarArmy$Battles" ({ cls := "ScarArmy$Battles", name := "canBeBoth", desc := "(II)Z" } : Jvm.MethodName) ({ cls := "ScarArmy$Battles", name := "canBeBoth", desc := "(II)Z" } : Jvm.MethodName)) ∈ pT := List.mem_filter.mpr ⟨(tb_1 (List.mem_of_getElem? (i := 207) rfl)), by decide +kernel⟩
set_option maxRecDepth 100000 in
theorem w_572 : (Jvm.Cond.code ({ cls := "ScarArmy$Battles", name := "canBeBoth", desc := "(II)Z" } : Jvm.MethodName) prog_4_method_5_code (3 : Nat) (Option.some Jvm.ClassFile.FieldType.boolean)) ∈ pT := List.mem_filter.mpr ⟨(tb_1 (List.mem_of_getElem? (i := 208) rfl)), by decide +kernel⟩
set_option maxRecDepth 100000 in
theorem w_573 : (Jvm.Cond.methodLink "ScarArmy$Battles" (31 : Nat) ({ cls := "java/lang/Math", name := "abs", desc := "(I)I" } : Jvm.MethodName)) ∈ pT := List.mem_filter.mpr ⟨(tb_1 (List.mem_of_getElem? (i := 209) rfl)), by decide +kernel⟩
set_option maxRecDepth 100000 in
theorem w_574 : (Jvm.Cond.static ({ cls := "java/lang/Math", name := "abs", desc := "(I)I" } : Jvm.MethodName)) ∈ pT := List.mem_filter.mpr ⟨(tb_1 (List.mem_of_getElem? (i := 210) rfl)), by decide +kernel⟩
set_option maxRecDepth 100000 in
theorem w_575 : (Jvm.Cond.code ({ cls := "java/lang/Math", name := "abs", desc := "(I)I" } : Jvm.MethodName) prog_24_method_59_code (1 : Nat) (Option.some Jvm.ClassFile.FieldType.int)) ∈ pT := List.mem_filter.mpr ⟨(tb_1 (List.mem_of_getElem? (i := 211) rfl)), by decide +kernel⟩
set_option maxRecDepth 100000 in
theorem w_576 : (Jvm.Cond.methodLink "ScarArmy$Search" (47 : Nat) ({ cls := "ScarArmy$Search", name := "isFree", desc := "(II)Z" } : Jvm.MethodName)) ∈ pT := List.mem_filter.mpr ⟨(tb_1 (List.mem_of_getElem? (i := 212) rfl)), by decide +kernel⟩
set_option maxRecDepth 100000 in
theorem w_578 : (Jvm.Cond.instanceMethod ({ cls := "ScarArmy$Search", name := "isFree", desc := "(II)Z" } : Jvm.MethodName)) ∈ pT := List.mem_filter.mpr ⟨(tb_1 (List.mem_of_getElem? (i := 214) rfl)), by decide +kernel⟩
set_option maxRecDepth 100000 in
theorem w_579 : (Jvm.Cond.code ({ cls := "ScarArmy$Search", name := "isFree", desc := "(II)Z" } : Jvm.MethodName) prog_11_method_9_code (4 : Nat) (Option.some Jvm.ClassFile.FieldType.boolean)) ∈ pT := List.mem_filter.mpr ⟨(tb_1 (List.mem_of_getElem? (i := 215) rfl)), by decide +kernel⟩
set_option maxRecDepth 100000 in
theorem w_583 : (Jvm.Cond.code ({ cls := "ScarArmy", name := "fewest", desc := "()I" } : Jvm.MethodName) prog_1_method_22_code (1 : Nat) (Option.some Jvm.ClassFile.FieldType.int)) ∈ pT := List.mem_filter.mpr ⟨(tb_1 (List.mem_of_getElem? (i := 219) rfl)), by decide +kernel⟩
set_option maxRecDepth 100000 in
theorem w_584 : (Jvm.Cond.methodLink "ScarArmy" (323 : Nat) ({ cls := "ScarArmy$Search", name := "fewestMen", desc := "(LScarArmy$Army;)I" } : Jvm.MethodName)) ∈ pT := List.mem_filter.mpr ⟨(tb_1 (List.mem_of_getElem? (i := 220) rfl)), by decide +kernel⟩
set_option maxRecDepth 100000 in
theorem w_585 : (Jvm.Cond.instanceMethod ({ cls := "ScarArmy$Search", name := "fewestMen", desc := "(LScarArmy$Army;)I" } : Jvm.MethodName)) ∈ pT := List.mem_filter.mpr ⟨(tb_1 (List.mem_of_getElem? (i := 221) rfl)), by decide +kernel⟩
set_option maxRecDepth 100000 in
theorem w_586 : (Jvm.Cond.selects "ScarArmy$Search" ({ cls := "ScarArmy$Search", name := "fewestMen", desc := "(LScarArmy$Army;)I" } : Jvm.MethodName) ({ cls := "ScarArmy$Search", name := "fewestMen", desc := "(LScarArmy$Army;)I" } : Jvm.MethodName)) ∈ pT := List.mem_filter.mpr ⟨(tb_1 (List.mem_of_getElem? (i := 222) rfl)), by decide +kernel⟩
set_option maxRecDepth 100000 in
theorem w_587 : (Jvm.Cond.code ({ cls := "ScarArmy$Search", name := "fewestMen", desc := "(LScarArmy$Army;)I" } : Jvm.MethodName) prog_11_method_10_code (6 : Nat) (Option.some Jvm.ClassFile.FieldType.int)) ∈ pT := List.mem_filter.mpr ⟨(tb_1 (List.mem_of_getElem? (i := 223) rfl)), by decide +kernel⟩
set_option maxRecDepth 100000 in
theorem w_588 : (Jvm.Cond.methodLink "ScarArmy$Search" (104 : Nat) ({ cls := "ScarArmy$Scars", name := "battlesBorneBy", desc := "(I)I" } : Jvm.MethodName)) ∈ pT := List.mem_filter.mpr ⟨(tb_1 (List.mem_of_getElem? (i := 224) rfl)), by decide +kernel⟩
set_option maxRecDepth 100000 in
theorem w_589 : (Jvm.Cond.instanceMethod ({ cls := "ScarArmy$Scars", name := "battlesBorneBy", desc := "(I)I" } : Jvm.MethodName)) ∈ pT := List.mem_filter.mpr ⟨(tb_1 (List.mem_of_getElem? (i := 225) rfl)), by decide +kernel⟩
set_option maxRecDepth 100000 in
theorem w_590 : (Jvm.Cond.selects "ScarArmy$Scars" ({ cls := "ScarArmy$Scars", name := "battlesBorneBy", desc := "(I)I" } : Jvm.MethodName) ({ cls := "ScarArmy$Scars", name := "battlesBorneBy", desc := "(I)I" } : Jvm.MethodName)) ∈ pT := List.mem_filter.mpr ⟨(tb_1 (List.mem_of_getElem? (i := 226) rfl)), by decide +kernel⟩
set_option maxRecDepth 100000 in
theorem w_591 : (Jvm.Cond.code ({ cls := "ScarArmy$Scars", name := "battlesBorneBy", desc := "(I)I" } : Jvm.MethodName) prog_10_method_10_code (2 : Nat) (Option.some Jvm.ClassFile.FieldType.int)) ∈ pT := List.mem_filter.mpr ⟨(tb_1 (List.mem_of_getElem? (i := 227) rfl)), by decide +kernel⟩
set_option maxRecDepth 100000 in
theorem w_592 : (Jvm.Cond.methodLink "ScarArmy$Scars" (52 : Nat) ({ cls := "ScarArmy$Scars", name := "bitsWhere", desc := "([II[I)I" } : Jvm.MethodName)) ∈ pT := List.mem_filter.mpr ⟨(tb_1 (List.mem_of_getElem? (i := 228) rfl)), by decide +kernel⟩
set_option maxRecDepth 100000 in
theorem w_594 : (Jvm.Cond.instanceMethod ({ cls := "ScarArmy$Scars", name := "bitsWhere", desc := "([II[I)I" } : Jvm.MethodName)) ∈ pT := List.mem_filter.mpr ⟨(tb_1 (List.mem_of_getElem? (i := 230) rfl)), by decide +kernel⟩
set_option maxRecDepth 100000 in
theorem w_595 : (Jvm.Cond.code ({ cls := "ScarArmy$Scars", name := "bitsWhere", desc := "([II[I)I" } : Jvm.MethodName) prog_10_method_8_code (6 : Nat) (Option.some Jvm.ClassFile.FieldType.int)) ∈ pT := List.mem_filter.mpr ⟨(tb_1 (List.mem_of_getElem? (i := 231) rfl)), by decide +kernel⟩
set_option maxRecDepth 100000 in
theorem w_596 : (Jvm.Cond.methodLink "ScarArmy$Search" (107 : Nat) ({ cls := "ScarArmy$Men", name := "all", desc := "()I" } : Jvm.MethodName)) ∈ pT := List.mem_filter.mpr ⟨(tb_1 (List.mem_of_getElem? (i := 232) rfl)), by decide +kernel⟩
set_option maxRecDepth 100000 in
theorem w_597 : (Jvm.Cond.instanceMethod ({ cls := "ScarArmy$Men", name := "all", desc := "()I" } : Jvm.MethodName)) ∈ pT := List.mem_filter.mpr ⟨(tb_1 (List.mem_of_getElem? (i := 233) rfl)), by decide +kernel⟩
set_option maxRecDepth 100000 in
theorem w_598 : (Jvm.Cond.selects "ScarArmy$Men" ({ cls := "ScarArmy$Men", name := "all", desc := "()I" } : Jvm.MethodName) ({ cls := "ScarArmy$Men", name := "all", desc := "()I" } : Jvm.MethodName)) ∈ pT := List.mem_filter.mpr ⟨(tb_1 (List.mem_of_getElem? (i := 234) rfl)), by decide +kernel⟩
set_option maxRecDepth 100000 in
theorem w_599 : (Jvm.Cond.code ({ cls := "ScarArmy$Men", name := "all", desc := "()I" } : Jvm.MethodName) prog_9_method_4_code (1 : Nat) (Option.some Jvm.ClassFile.FieldType.int)) ∈ pT := List.mem_filter.mpr ⟨(tb_1 (List.mem_of_getElem? (i := 235) rfl)), by decide +kernel⟩
set_option maxRecDepth 100000 in
theorem w_600 : (Jvm.Cond.methodLink "ScarArmy$Search" (51 : Nat) ({ cls := "java/lang/Integer", name := "bitCount", desc := "(I)I" } : Jvm.MethodName)) ∈ pT := List.mem_filter.mpr ⟨(tb_1 (List.mem_of_getElem? (i := 236) rfl)), by decide +kernel⟩
set_option maxRecDepth 100000 in
theorem w_601 : (Jvm.Cond.static ({ cls := "java/lang/Integer", name := "bitCount", desc := "(I)I" } : Jvm.MethodName)) ∈ pT := List.mem_filter.mpr ⟨(tb_1 (List.mem_of_getElem? (i := 237) rfl)), by decide +kernel⟩
set_option maxRecDepth 100000 in
theorem w_602 : (Jvm.Cond.code ({ cls := "java/lang/Integer", name := "bitCount", desc := "(I)I" } : Jvm.MethodName) prog_23_method_49_code (1 : Nat) (Option.some Jvm.ClassFile.FieldType.int)) ∈ pT := List.mem_filter.mpr ⟨(tb_1 (List.mem_of_getElem? (i := 238) rfl)), by decide +kernel⟩
set_option maxRecDepth 100000 in
theorem w_603 : (Jvm.Cond.constant "java/lang/Integer" (265 : Nat) (1431655765 : Int32)) ∈ pT := List.mem_filter.mpr ⟨(tb_1 (List.mem_of_getElem? (i := 239) rfl)), by decide +kernel⟩
set_option maxRecDepth 100000 in
theorem w_604 : (Jvm.Cond.constant "java/lang/Integer" (266 : Nat) (858993459 : Int32)) ∈ pT := List.mem_filter.mpr ⟨(tb_2 (List.mem_of_getElem? (i := 0) rfl)), by decide +kernel⟩
set_option maxRecDepth 100000 in
theorem w_605 : (Jvm.Cond.constant "java/lang/Integer" (267 : Nat) (252645135 : Int32)) ∈ pT := List.mem_filter.mpr ⟨(tb_2 (List.mem_of_getElem? (i := 1) rfl)), by decide +kernel⟩
set_option maxRecDepth 100000 in
theorem w_606 : (Jvm.Cond.methodLink "ScarArmy$Search" (111 : Nat) ({ cls := "ScarArmy$Search", name := "battlesOf", desc := "(II)I" } : Jvm.MethodName)) ∈ pT := List.mem_filter.mpr ⟨(tb_2 (List.mem_of_getElem? (i := 2) rfl)), by decide +kernel⟩
set_option maxRecDepth 100000 in
theorem w_608 : (Jvm.Cond.instanceMethod ({ cls := "ScarArmy$Search", name := "battlesOf", desc := "(II)I" } : Jvm.MethodName)) ∈ pT := List.mem_filter.mpr ⟨(tb_2 (List.mem_of_getElem? (i := 4) rfl)), by decide +kernel⟩
set_option maxRecDepth 100000 in
theorem w_609 : (Jvm.Cond.code ({ cls := "ScarArmy$Search", name := "battlesOf", desc := "(II)I" } : Jvm.MethodName) prog_11_method_11_code (5 : Nat) (Option.some Jvm.ClassFile.FieldType.int)) ∈ pT := List.mem_filter.mpr ⟨(tb_2 (List.mem_of_getElem? (i := 5) rfl)), by decide +kernel⟩
set_option maxRecDepth 100000 in
theorem w_613 : (Jvm.Cond.code ({ cls := "ScarArmy", name := "sergeant", desc := "()I" } : Jvm.MethodName) prog_1_method_27_code (1 : Nat) (Option.some Jvm.ClassFile.FieldType.int)) ∈ pT := List.mem_filter.mpr ⟨(tb_2 (List.mem_of_getElem? (i := 9) rfl)), by decide +kernel⟩
set_option maxRecDepth 100000 in
theorem w_614 : (Jvm.Cond.methodLink "ScarArmy" (350 : Nat) ({ cls := "ScarArmy$Army", name := "holderOfMost", desc := "()I" } : Jvm.MethodName)) ∈ pT := List.mem_filter.mpr ⟨(tb_2 (List.mem_of_getElem? (i := 10) rfl)), by decide +kernel⟩
set_option maxRecDepth 100000 in
theorem w_615 : (Jvm.Cond.instanceMethod ({ cls := "ScarArmy$Army", name := "holderOfMost", desc := "()I" } : Jvm.MethodName)) ∈ pT := List.mem_filter.mpr ⟨(tb_2 (List.mem_of_getElem? (i := 11) rfl)), by decide +kernel⟩
set_option maxRecDepth 100000 in
theorem w_616 : (Jvm.Cond.selects "ScarArmy$Army" ({ cls := "ScarArmy$Army", name := "holderOfMost", desc := "()I" } : Jvm.MethodName) ({ cls := "ScarArmy$Army", name := "holderOfMost", desc := "()I" } : Jvm.MethodName)) ∈ pT := List.mem_filter.mpr ⟨(tb_2 (List.mem_of_getElem? (i := 12) rfl)), by decide +kernel⟩
set_option maxRecDepth 100000 in
theorem w_617 : (Jvm.Cond.code ({ cls := "ScarArmy$Army", name := "holderOfMost", desc := "()I" } : Jvm.MethodName) prog_2_method_22_code (5 : Nat) (Option.some Jvm.ClassFile.FieldType.int)) ∈ pT := List.mem_filter.mpr ⟨(tb_2 (List.mem_of_getElem? (i := 13) rfl)), by decide +kernel⟩
set_option maxRecDepth 100000 in
theorem w_618 : (Jvm.Cond.methodLink "ScarArmy$Army" (189 : Nat) ({ cls := "ScarArmy$Army", name := "heldBy", desc := "(I)I" } : Jvm.MethodName)) ∈ pT := List.mem_filter.mpr ⟨(tb_2 (List.mem_of_getElem? (i := 14) rfl)), by decide +kernel⟩
set_option maxRecDepth 100000 in
theorem w_619 : (Jvm.Cond.instanceMethod ({ cls := "ScarArmy$Army", name := "heldBy", desc := "(I)I" } : Jvm.MethodName)) ∈ pT := List.mem_filter.mpr ⟨(tb_2 (List.mem_of_getElem? (i := 15) rfl)), by decide +kernel⟩
set_option maxRecDepth 100000 in
theorem w_620 : (Jvm.Cond.selects "ScarArmy$Army" ({ cls := "ScarArmy$Army", name := "heldBy", desc := "(I)I" } : Jvm.MethodName) ({ cls := "ScarArmy$Army", name := "heldBy", desc := "(I)I" } : Jvm.MethodName)) ∈ pT := List.mem_filter.mpr ⟨(tb_2 (List.mem_of_getElem? (i := 16) rfl)), by decide +kernel⟩
set_option maxRecDepth 100000 in
theorem w_621 : (Jvm.Cond.code ({ cls := "ScarArmy$Army", name := "heldBy", desc := "(I)I" } : Jvm.MethodName) prog_2_method_21_code (2 : Nat) (Option.some Jvm.ClassFile.FieldType.int)) ∈ pT := List.mem_filter.mpr ⟨(tb_2 (List.mem_of_getElem? (i := 17) rfl)), by decide +kernel⟩
set_option maxRecDepth 100000 in
theorem w_622 : (Jvm.Cond.methodLink "ScarArmy$Army" (183 : Nat) ({ cls := "ScarArmy$Scars", name := "battlesBorneBy", desc := "(I)I" } : Jvm.MethodName)) ∈ pT := List.mem_filter.mpr ⟨(tb_2 (List.mem_of_getElem? (i := 18) rfl)), by decide +kernel⟩
set_option maxRecDepth 100000 in
theorem w_623 : (Jvm.Cond.methodLink "ScarArmy$Army" (186 : Nat) ({ cls := "ScarArmy$Scars", name := "battlesNotBorneBy", desc := "(I)I" } : Jvm.MethodName)) ∈ pT := List.mem_filter.mpr ⟨(tb_2 (List.mem_of_getElem? (i := 19) rfl)), by decide +kernel⟩
set_option maxRecDepth 100000 in
theorem w_624 : (Jvm.Cond.instanceMethod ({ cls := "ScarArmy$Scars", name := "battlesNotBorneBy", desc := "(I)I" } : Jvm.MethodName)) ∈ pT := List.mem_filter.mpr ⟨(tb_2 (List.mem_of_getElem? (i := 20) rfl)), by decide +kernel⟩
set_option maxRecDepth 100000 in
theorem w_625 : (Jvm.Cond.selects "ScarArmy$Scars" ({ cls := "ScarArmy$Scars", name := "battlesNotBorneBy", desc := "(I)I" } : Jvm.MethodName) ({ cls := "ScarArmy$Scars", name := "battlesNotBorneBy", desc := "(I)I" } : Jvm.MethodName)) ∈ pT := List.mem_filter.mpr ⟨(tb_2 (List.mem_of_getElem? (i := 21) rfl)), by decide +kernel⟩
set_option maxRecDepth 100000 in
theorem w_626 : (Jvm.Cond.code ({ cls := "ScarArmy$Scars", name := "battlesNotBorneBy", desc := "(I)I" } : Jvm.MethodName) prog_10_method_11_code (4 : Nat) (Option.some Jvm.ClassFile.FieldType.int)) ∈ pT := List.mem_filter.mpr ⟨(tb_2 (List.mem_of_getElem? (i := 22) rfl)), by decide +kernel⟩
set_option maxRecDepth 100000 in
theorem w_627 : (Jvm.Cond.methodLink "ScarArmy$Army" (192 : Nat) ({ cls := "java/lang/Integer", name := "bitCount", desc := "(I)I" } : Jvm.MethodName)) ∈ pT := List.mem_filter.mpr ⟨(tb_2 (List.mem_of_getElem? (i := 23) rfl)), by decide +kernel⟩
set_option maxRecDepth 100000 in
theorem w_631 : (Jvm.Cond.code ({ cls := "ScarArmy", name := "bargain", desc := "(Z)I" } : Jvm.MethodName) prog_1_method_30_code (2 : Nat) (Option.some Jvm.ClassFile.FieldType.int)) ∈ pT := List.mem_filter.mpr ⟨(tb_2 (List.mem_of_getElem? (i := 27) rfl)), by decide +kernel⟩
set_option maxRecDepth 100000 in
theorem w_632 : (Jvm.Cond.methodLink "ScarArmy" (367 : Nat) ({ cls := "ScarArmy$Army", name := "bestBargain", desc := "(Z)I" } : Jvm.MethodName)) ∈ pT := List.mem_filter.mpr ⟨(tb_2 (List.mem_of_getElem? (i := 28) rfl)), by decide +kernel⟩
set_option maxRecDepth 100000 in
theorem w_633 : (Jvm.Cond.instanceMethod ({ cls := "ScarArmy$Army", name := "bestBargain", desc := "(Z)I" } : Jvm.MethodName)) ∈ pT := List.mem_filter.mpr ⟨(tb_2 (List.mem_of_getElem? (i := 29) rfl)), by decide +kernel⟩
set_option maxRecDepth 100000 in
theorem w_634 : (Jvm.Cond.selects "ScarArmy$Army" ({ cls := "ScarArmy$Army", name := "bestBargain", desc := "(Z)I" } : Jvm.MethodName) ({ cls := "ScarArmy$Army", name := "bestBargain", desc := "(Z)I" } : Jvm.MethodName)) ∈ pT := List.mem_filter.mpr ⟨(tb_2 (List.mem_of_getElem? (i := 30) rfl)), by decide +kernel⟩
set_option maxRecDepth 100000 in
theorem w_635 : (Jvm.Cond.code ({ cls := "ScarArmy$Army", name := "bestBargain", desc := "(Z)I" } : Jvm.MethodName) prog_2_method_13_code (7 : Nat) (Option.some Jvm.ClassFile.FieldType.int)) ∈ pT := List.mem_filter.mpr ⟨(tb_2 (List.mem_of_getElem? (i := 31) rfl)), by decide +kernel⟩
set_option maxRecDepth 100000 in
theorem w_636 : (Jvm.Cond.methodLink "ScarArmy$Army" (128 : Nat) ({ cls := "ScarArmy$Men", name := "isAlive", desc := "(I)Z" } : Jvm.MethodName)) ∈ pT := List.mem_filter.mpr ⟨(tb_2 (List.mem_of_getElem? (i := 32) rfl)), by decide +kernel⟩
set_option maxRecDepth 100000 in
theorem w_637 : (Jvm.Cond.instanceMethod ({ cls := "ScarArmy$Men", name := "isAlive", desc := "(I)Z" } : Jvm.MethodName)) ∈ pT := List.mem_filter.mpr ⟨(tb_2 (List.mem_of_getElem? (i := 33) rfl)), by decide +kernel⟩
set_option maxRecDepth 100000 in
theorem w_638 : (Jvm.Cond.selects "ScarArmy$Men" ({ cls := "ScarArmy$Men", name := "isAlive", desc := "(I)Z" } : Jvm.MethodName) ({ cls := "ScarArmy$Men", name := "isAlive", desc := "(I)Z" } : Jvm.MethodName)) ∈ pT := List.mem_filter.mpr ⟨(tb_2 (List.mem_of_getElem? (i := 34) rfl)), by decide +kernel⟩
set_option maxRecDepth 100000 in
theorem w_639 : (Jvm.Cond.code ({ cls := "ScarArmy$Men", name := "isAlive", desc := "(I)Z" } : Jvm.MethodName) prog_9_method_5_code (2 : Nat) (Option.some Jvm.ClassFile.FieldType.boolean)) ∈ pT := List.mem_filter.mpr ⟨(tb_2 (List.mem_of_getElem? (i := 35) rfl)), by decide +kernel⟩
set_option maxRecDepth 100000 in
theorem w_640 : (Jvm.Cond.methodLink "ScarArmy$Army" (139 : Nat) ({ cls := "ScarArmy$Army", name := "bestBuyer", desc := "(I)I" } : Jvm.MethodName)) ∈ pT := List.mem_filter.mpr ⟨(tb_2 (List.mem_of_getElem? (i := 36) rfl)), by decide +kernel⟩
set_option maxRecDepth 100000 in
theorem w_641 : (Jvm.Cond.instanceMethod ({ cls := "ScarArmy$Army", name := "bestBuyer", desc := "(I)I" } : Jvm.MethodName)) ∈ pT := List.mem_filter.mpr ⟨(tb_2 (List.mem_of_getElem? (i := 37) rfl)), by decide +kernel⟩
set_option maxRecDepth 100000 in
theorem w_642 : (Jvm.Cond.selects "ScarArmy$Army" ({ cls := "ScarArmy$Army", name := "bestBuyer", desc := "(I)I" } : Jvm.MethodName) ({ cls := "ScarArmy$Army", name := "bestBuyer", desc := "(I)I" } : Jvm.MethodName)) ∈ pT := List.mem_filter.mpr ⟨(tb_2 (List.mem_of_getElem? (i := 38) rfl)), by decide +kernel⟩
set_option maxRecDepth 100000 in
theorem w_643 : (Jvm.Cond.code ({ cls := "ScarArmy$Army", name := "bestBuyer", desc := "(I)I" } : Jvm.MethodName) prog_2_method_12_code (6 : Nat) (Option.some Jvm.ClassFile.FieldType.int)) ∈ pT := List.mem_filter.mpr ⟨(tb_2 (List.mem_of_getElem? (i := 39) rfl)), by decide +kernel⟩
set_option maxRecDepth 100000 in
theorem w_644 : (Jvm.Cond.methodLink "ScarArmy$Army" (136 : Nat) ({ cls := "ScarArmy$Army", name := "gainOf", desc := "(II)I" } : Jvm.MethodName)) ∈ pT := List.mem_filter.mpr ⟨(tb_2 (List.mem_of_getElem? (i := 40) rfl)), by decide +kernel⟩
set_option maxRecDepth 100000 in
theorem w_645 : (Jvm.Cond.instanceMethod ({ cls := "ScarArmy$Army", name := "gainOf", desc := "(II)I" } : Jvm.MethodName)) ∈ pT := List.mem_filter.mpr ⟨(tb_2 (List.mem_of_getElem? (i := 41) rfl)), by decide +kernel⟩
set_option maxRecDepth 100000 in
theorem w_646 : (Jvm.Cond.selects "ScarArmy$Army" ({ cls := "ScarArmy$Army", name := "gainOf", desc := "(II)I" } : Jvm.MethodName) ({ cls := "ScarArmy$Army", name := "gainOf", desc := "(II)I" } : Jvm.MethodName)) ∈ pT := List.mem_filter.mpr ⟨(tb_2 (List.mem_of_getElem? (i := 42) rfl)), by decide +kernel⟩
set_option maxRecDepth 100000 in
theorem w_647 : (Jvm.Cond.code ({ cls := "ScarArmy$Army", name := "gainOf", desc := "(II)I" } : Jvm.MethodName) prog_2_method_11_code (5 : Nat) (Option.some Jvm.ClassFile.FieldType.int)) ∈ pT := List.mem_filter.mpr ⟨(tb_2 (List.mem_of_getElem? (i := 43) rfl)), by decide +kernel⟩
set_option maxRecDepth 100000 in
theorem w_648 : (Jvm.Cond.methodLink "ScarArmy$Army" (122 : Nat) ({ cls := "ScarArmy$Scars", name := "earsOf", desc := "(I)I" } : Jvm.MethodName)) ∈ pT := List.mem_filter.mpr ⟨(tb_2 (List.mem_of_getElem? (i := 44) rfl)), by decide +kernel⟩
set_option maxRecDepth 100000 in
theorem w_649 : (Jvm.Cond.instanceMethod ({ cls := "ScarArmy$Scars", name := "earsOf", desc := "(I)I" } : Jvm.MethodName)) ∈ pT := List.mem_filter.mpr ⟨(tb_2 (List.mem_of_getElem? (i := 45) rfl)), by decide +kernel⟩
set_option maxRecDepth 100000 in
theorem w_650 : (Jvm.Cond.selects "ScarArmy$Scars" ({ cls := "ScarArmy$Scars", name := "earsOf", desc := "(I)I" } : Jvm.MethodName) ({ cls := "ScarArmy$Scars", name := "earsOf", desc := "(I)I" } : Jvm.MethodName)) ∈ pT := List.mem_filter.mpr ⟨(tb_2 (List.mem_of_getElem? (i := 46) rfl)), by decide +kernel⟩
set_option maxRecDepth 100000 in
theorem w_651 : (Jvm.Cond.code ({ cls := "ScarArmy$Scars", name := "earsOf", desc := "(I)I" } : Jvm.MethodName) prog_10_method_17_code (4 : Nat) (Option.some Jvm.ClassFile.FieldType.int)) ∈ pT := List.mem_filter.mpr ⟨(tb_2 (List.mem_of_getElem? (i := 47) rfl)), by decide +kernel⟩
set_option maxRecDepth 100000 in
theorem w_652 : (Jvm.Cond.methodLink "ScarArmy$Scars" (59 : Nat) ({ cls := "ScarArmy$Scars", name := "earBit", desc := "(I)I" } : Jvm.MethodName)) ∈ pT := List.mem_filter.mpr ⟨(tb_2 (List.mem_of_getElem? (i := 48) rfl)), by decide +kernel⟩
set_option maxRecDepth 100000 in
theorem w_653 : (Jvm.Cond.methodLink "ScarArmy$Army" (111 : Nat) ({ cls := "java/lang/Math", name := "max", desc := "(II)I" } : Jvm.MethodName)) ∈ pT := List.mem_filter.mpr ⟨(tb_2 (List.mem_of_getElem? (i := 49) rfl)), by decide +kernel⟩
set_option maxRecDepth 100000 in
theorem w_654 : (Jvm.Cond.methodLink "ScarArmy$Army" (142 : Nat) ({ cls := "ScarArmy$Army", name := "priceOf", desc := "(I)I" } : Jvm.MethodName)) ∈ pT := List.mem_filter.mpr ⟨(tb_2 (List.mem_of_getElem? (i := 50) rfl)), by decide +kernel⟩
set_option maxRecDepth 100000 in
theorem w_655 : (Jvm.Cond.instanceMethod ({ cls := "ScarArmy$Army", name := "priceOf", desc := "(I)I" } : Jvm.MethodName)) ∈ pT := List.mem_filter.mpr ⟨(tb_2 (List.mem_of_getElem? (i := 51) rfl)), by decide +kernel⟩
set_option maxRecDepth 100000 in
theorem w_656 : (Jvm.Cond.selects "ScarArmy$Army" ({ cls := "ScarArmy$Army", name := "priceOf", desc := "(I)I" } : Jvm.MethodName) ({ cls := "ScarArmy$Army", name := "priceOf", desc := "(I)I" } : Jvm.MethodName)) ∈ pT := List.mem_filter.mpr ⟨(tb_2 (List.mem_of_getElem? (i := 52) rfl)), by decide +kernel⟩
set_option maxRecDepth 100000 in
theorem w_657 : (Jvm.Cond.code ({ cls := "ScarArmy$Army", name := "priceOf", desc := "(I)I" } : Jvm.MethodName) prog_2_method_10_code (3 : Nat) (Option.some Jvm.ClassFile.FieldType.int)) ∈ pT := List.mem_filter.mpr ⟨(tb_2 (List.mem_of_getElem? (i := 53) rfl)), by decide +kernel⟩
set_option maxRecDepth 100000 in
theorem w_658 : (Jvm.Cond.methodLink "ScarArmy$Army" (119 : Nat) ({ cls := "ScarArmy$Army", name := "worthOf", desc := "(I)I" } : Jvm.MethodName)) ∈ pT := List.mem_filter.mpr ⟨(tb_2 (List.mem_of_getElem? (i := 54) rfl)), by decide +kernel⟩
set_option maxRecDepth 100000 in
theorem w_659 : (Jvm.Cond.instanceMethod ({ cls := "ScarArmy$Army", name := "worthOf", desc := "(I)I" } : Jvm.MethodName)) ∈ pT := List.mem_filter.mpr ⟨(tb_2 (List.mem_of_getElem? (i := 55) rfl)), by decide +kernel⟩
set_option maxRecDepth 100000 in
theorem w_660 : (Jvm.Cond.selects "ScarArmy$Army" ({ cls := "ScarArmy$Army", name := "worthOf", desc := "(I)I" } : Jvm.MethodName) ({ cls := "ScarArmy$Army", name := "worthOf", desc := "(I)I" } : Jvm.MethodName)) ∈ pT := List.mem_filter.mpr ⟨(tb_2 (List.mem_of_getElem? (i := 56) rfl)), by decide +kernel⟩
set_option maxRecDepth 100000 in
theorem w_661 : (Jvm.Cond.code ({ cls := "ScarArmy$Army", name := "worthOf", desc := "(I)I" } : Jvm.MethodName) prog_2_method_4_code (2 : Nat) (Option.some Jvm.ClassFile.FieldType.int)) ∈ pT := List.mem_filter.mpr ⟨(tb_2 (List.mem_of_getElem? (i := 57) rfl)), by decide +kernel⟩
set_option maxRecDepth 100000 in
theorem w_662 : (Jvm.Cond.methodLink "ScarArmy$Army" (132 : Nat) ({ cls := "ScarArmy$Log", name := "timesOf", desc := "(I)I" } : Jvm.MethodName)) ∈ pT := List.mem_filter.mpr ⟨(tb_2 (List.mem_of_getElem? (i := 58) rfl)), by decide +kernel⟩
set_option maxRecDepth 100000 in
theorem w_663 : (Jvm.Cond.instanceMethod ({ cls := "ScarArmy$Log", name := "timesOf", desc := "(I)I" } : Jvm.MethodName)) ∈ pT := List.mem_filter.mpr ⟨(tb_2 (List.mem_of_getElem? (i := 59) rfl)), by decide +kernel⟩
set_option maxRecDepth 100000 in
theorem w_664 : (Jvm.Cond.selects "ScarArmy$Log" ({ cls := "ScarArmy$Log", name := "timesOf", desc := "(I)I" } : Jvm.MethodName) ({ cls := "ScarArmy$Log", name := "timesOf", desc := "(I)I" } : Jvm.MethodName)) ∈ pT := List.mem_filter.mpr ⟨(tb_2 (List.mem_of_getElem? (i := 60) rfl)), by decide +kernel⟩
set_option maxRecDepth 100000 in
theorem w_665 : (Jvm.Cond.code ({ cls := "ScarArmy$Log", name := "timesOf", desc := "(I)I" } : Jvm.MethodName) prog_7_method_5_code (4 : Nat) (Option.some Jvm.ClassFile.FieldType.int)) ∈ pT := List.mem_filter.mpr ⟨(tb_2 (List.mem_of_getElem? (i := 61) rfl)), by decide +kernel⟩
set_option maxRecDepth 100000 in
theorem w_669 : (Jvm.Cond.code ({ cls := "ScarArmy", name := "mourned", desc := "()I" } : Jvm.MethodName) prog_1_method_32_code (1 : Nat) (Option.some Jvm.ClassFile.FieldType.int)) ∈ pT := List.mem_filter.mpr ⟨(tb_2 (List.mem_of_getElem? (i := 65) rfl)), by decide +kernel⟩
set_option maxRecDepth 100000 in
theorem w_670 : (Jvm.Cond.methodLink "ScarArmy" (382 : Nat) ({ cls := "ScarArmy$Men", name := "namesOfDead", desc := "()I" } : Jvm.MethodName)) ∈ pT := List.mem_filter.mpr ⟨(tb_2 (List.mem_of_getElem? (i := 66) rfl)), by decide +kernel⟩
set_option maxRecDepth 100000 in
theorem w_671 : (Jvm.Cond.instanceMethod ({ cls := "ScarArmy$Men", name := "namesOfDead", desc := "()I" } : Jvm.MethodName)) ∈ pT := List.mem_filter.mpr ⟨(tb_2 (List.mem_of_getElem? (i := 67) rfl)), by decide +kernel⟩
set_option maxRecDepth 100000 in
theorem w_672 : (Jvm.Cond.selects "ScarArmy$Men" ({ cls := "ScarArmy$Men", name := "namesOfDead", desc := "()I" } : Jvm.MethodName) ({ cls := "ScarArmy$Men", name := "namesOfDead", desc := "()I" } : Jvm.MethodName)) ∈ pT := List.mem_filter.mpr ⟨(tb_2 (List.mem_of_getElem? (i := 68) rfl)), by decide +kernel⟩
set_option maxRecDepth 100000 in
theorem w_673 : (Jvm.Cond.code ({ cls := "ScarArmy$Men", name := "namesOfDead", desc := "()I" } : Jvm.MethodName) prog_9_method_13_code (3 : Nat) (Option.some Jvm.ClassFile.FieldType.int)) ∈ pT := List.mem_filter.mpr ⟨(tb_2 (List.mem_of_getElem? (i := 69) rfl)), by decide +kernel⟩
set_option maxRecDepth 100000 in
theorem w_674 : (Jvm.Cond.methodLink "ScarArmy$Men" (41 : Nat) ({ cls := "ScarArmy$Men", name := "isAlive", desc := "(I)Z" } : Jvm.MethodName)) ∈ pT := List.mem_filter.mpr ⟨(tb_2 (List.mem_of_getElem? (i := 70) rfl)), by decide +kernel⟩
set_option maxRecDepth 100000 in
theorem w_678 : (Jvm.Cond.code ({ cls := "ScarArmy", name := "route", desc := "(I)Z" } : Jvm.MethodName) prog_1_method_35_code (2 : Nat) (Option.some Jvm.ClassFile.FieldType.boolean)) ∈ pT := List.mem_filter.mpr ⟨(tb_2 (List.mem_of_getElem? (i := 74) rfl)), by decide +kernel⟩
set_option maxRecDepth 100000 in
theorem w_679 : (Jvm.Cond.methodLink "ScarArmy" (388 : Nat) ({ cls := "ScarArmy$Battles", name := "all", desc := "()I" } : Jvm.MethodName)) ∈ pT := List.mem_filter.mpr ⟨(tb_2 (List.mem_of_getElem? (i := 75) rfl)), by decide +kernel⟩
set_option maxRecDepth 100000 in
theorem w_680 : (Jvm.Cond.instanceMethod ({ cls := "ScarArmy$Battles", name := "all", desc := "()I" } : Jvm.MethodName)) ∈ pT := List.mem_filter.mpr ⟨(tb_2 (List.mem_of_getElem? (i := 76) rfl)), by decide +kernel⟩
set_option maxRecDepth 100000 in
theorem w_681 : (Jvm.Cond.selects "ScarArmy$Battles" ({ cls := "ScarArmy$Battles", name := "all", desc := "()I" } : Jvm.MethodName) ({ cls := "ScarArmy$Battles", name := "all", desc := "()I" } : Jvm.MethodName)) ∈ pT := List.mem_filter.mpr ⟨(tb_2 (List.mem_of_getElem? (i := 77) rfl)), by decide +kernel⟩
set_option maxRecDepth 100000 in
theorem w_682 : (Jvm.Cond.code ({ cls := "ScarArmy$Battles", name := "all", desc := "()I" } : Jvm.MethodName) prog_4_method_4_code (1 : Nat) (Option.some Jvm.ClassFile.FieldType.int)) ∈ pT := List.mem_filter.mpr ⟨(tb_2 (List.mem_of_getElem? (i := 78) rfl)), by decide +kernel⟩
set_option maxRecDepth 100000 in
theorem w_683 : (Jvm.Cond.methodLink "ScarArmy" (389 : Nat) ({ cls := "ScarArmy$Battles", name := "areRoute", desc := "(I)Z" } : Jvm.MethodName)) ∈ pT := List.mem_filter.mpr ⟨(tb_2 (List.mem_of_getElem? (i := 79) rfl)), by decide +kernel⟩
set_option maxRecDepth 100000 in
theorem w_684 : (Jvm.Cond.instanceMethod ({ cls := "ScarArmy$Battles", name := "areRoute", desc := "(I)Z" } : Jvm.MethodName)) ∈ pT := List.mem_filter.mpr ⟨(tb_2 (List.mem_of_getElem? (i := 80) rfl)), by decide +kernel⟩
set_option maxRecDepth 100000 in
theorem w_685 : (Jvm.Cond.selects "ScarArmy$Battles" ({ cls := "ScarArmy$Battles", name := "areRoute", desc := "(I)Z" } : Jvm.MethodName) ({ cls := "ScarArmy$Battles", name := "areRoute", desc := "(I)Z" } : Jvm.MethodName)) ∈ pT := List.mem_filter.mpr ⟨(tb_2 (List.mem_of_getElem? (i := 81) rfl)), by decide +kernel⟩
set_option maxRecDepth 100000 in
theorem w_686 : (Jvm.Cond.code ({ cls := "ScarArmy$Battles", name := "areRoute", desc := "(I)Z" } : Jvm.MethodName) prog_4_method_6_code (5 : Nat) (Option.some Jvm.ClassFile.FieldType.boolean)) ∈ pT := List.mem_filter.mpr ⟨(tb_2 (List.mem_of_getElem? (i := 82) rfl)), by decide +kernel⟩
set_option maxRecDepth 100000 in
theorem w_687 : (Jvm.Cond.methodLink "ScarArmy$Battles" (37 : Nat) ({ cls := "ScarArmy$Battles", name := "canBeBoth", desc := "(II)Z" } : Jvm.MethodName)) ∈ pT := List.mem_filter.mpr ⟨(tb_2 (List.mem_of_getElem? (i := 83) rfl)), by decide +kernel⟩
set_option maxRecDepth 100000 in
theorem w_691 : (Jvm.Cond.code ({ cls := "ScarArmy", name := "campaign", desc := "(Z)I" } : Jvm.MethodName) prog_1_method_36_code (3 : Nat) (Option.some Jvm.ClassFile.FieldType.int)) ∈ pT := List.mem_filter.mpr ⟨(tb_2 (List.mem_of_getElem? (i := 87) rfl)), by decide +kernel⟩
set_option maxRecDepth 100000 in
theorem w_692 : (Jvm.Cond.methodLink "ScarArmy" (392 : Nat) ({ cls := "ScarArmy$Battles", name := "longestRoute", desc := "()I" } : Jvm.MethodName)) ∈ pT := List.mem_filter.mpr ⟨(tb_2 (List.mem_of_getElem? (i := 88) rfl)), by decide +kernel⟩
set_option maxRecDepth 100000 in
theorem w_693 : (Jvm.Cond.instanceMethod ({ cls := "ScarArmy$Battles", name := "longestRoute", desc := "()I" } : Jvm.MethodName)) ∈ pT := List.mem_filter.mpr ⟨(tb_2 (List.mem_of_getElem? (i := 89) rfl)), by decide +kernel⟩
set_option maxRecDepth 100000 in
theorem w_694 : (Jvm.Cond.selects "ScarArmy$Battles" ({ cls := "ScarArmy$Battles", name := "longestRoute", desc := "()I" } : Jvm.MethodName) ({ cls := "ScarArmy$Battles", name := "longestRoute", desc := "()I" } : Jvm.MethodName)) ∈ pT := List.mem_filter.mpr ⟨(tb_2 (List.mem_of_getElem? (i := 90) rfl)), by decide +kernel⟩
set_option maxRecDepth 100000 in
theorem w_695 : (Jvm.Cond.code ({ cls := "ScarArmy$Battles", name := "longestRoute", desc := "()I" } : Jvm.MethodName) prog_4_method_7_code (3 : Nat) (Option.some Jvm.ClassFile.FieldType.int)) ∈ pT := List.mem_filter.mpr ⟨(tb_2 (List.mem_of_getElem? (i := 91) rfl)), by decide +kernel⟩
set_option maxRecDepth 100000 in
theorem w_696 : (Jvm.Cond.methodLink "ScarArmy$Battles" (41 : Nat) ({ cls := "ScarArmy$Battles", name := "all", desc := "()I" } : Jvm.MethodName)) ∈ pT := List.mem_filter.mpr ⟨(tb_2 (List.mem_of_getElem? (i := 92) rfl)), by decide +kernel⟩
set_option maxRecDepth 100000 in
theorem w_697 : (Jvm.Cond.methodLink "ScarArmy$Battles" (45 : Nat) ({ cls := "java/lang/Integer", name := "bitCount", desc := "(I)I" } : Jvm.MethodName)) ∈ pT := List.mem_filter.mpr ⟨(tb_2 (List.mem_of_getElem? (i := 93) rfl)), by decide +kernel⟩
set_option maxRecDepth 100000 in
theorem w_698 : (Jvm.Cond.methodLink "ScarArmy$Battles" (50 : Nat) ({ cls := "ScarArmy$Battles", name := "areRoute", desc := "(I)Z" } : Jvm.MethodName)) ∈ pT := List.mem_filter.mpr ⟨(tb_2 (List.mem_of_getElem? (i := 94) rfl)), by decide +kernel⟩
set_option maxRecDepth 100000 in
theorem w_699 : (Jvm.Cond.methodLink "ScarArmy" (311 : Nat) ({ cls := "java/lang/Integer", name := "bitCount", desc := "(I)I" } : Jvm.MethodName)) ∈ pT := List.mem_filter.mpr ⟨(tb_2 (List.mem_of_getElem? (i := 95) rfl)), by decide +kernel⟩
set_option maxRecDepth 100000 in
theorem w_703 : (Jvm.Cond.code ({ cls := "ScarArmy", name := "voids", desc := "()I" } : Jvm.MethodName) prog_1_method_37_code (1 : Nat) (Option.some Jvm.ClassFile.FieldType.int)) ∈ pT := List.mem_filter.mpr ⟨(tb_2 (List.mem_of_getElem? (i := 99) rfl)), by decide +kernel⟩
set_option maxRecDepth 100000 in
theorem w_704 : (Jvm.Cond.methodLink "ScarArmy" (395 : Nat) ({ cls := "ScarArmy$Army", name := "voidScars", desc := "()I" } : Jvm.MethodName)) ∈ pT := List.mem_filter.mpr ⟨(tb_2 (List.mem_of_getElem? (i := 100) rfl)), by decide +kernel⟩
set_option maxRecDepth 100000 in
theorem w_705 : (Jvm.Cond.instanceMethod ({ cls := "ScarArmy$Army", name := "voidScars", desc := "()I" } : Jvm.MethodName)) ∈ pT := List.mem_filter.mpr ⟨(tb_2 (List.mem_of_getElem? (i := 101) rfl)), by decide +kernel⟩
set_option maxRecDepth 100000 in
theorem w_706 : (Jvm.Cond.selects "ScarArmy$Army" ({ cls := "ScarArmy$Army", name := "voidScars", desc := "()I" } : Jvm.MethodName) ({ cls := "ScarArmy$Army", name := "voidScars", desc := "()I" } : Jvm.MethodName)) ∈ pT := List.mem_filter.mpr ⟨(tb_2 (List.mem_of_getElem? (i := 102) rfl)), by decide +kernel⟩
set_option maxRecDepth 100000 in
theorem w_707 : (Jvm.Cond.code ({ cls := "ScarArmy$Army", name := "voidScars", desc := "()I" } : Jvm.MethodName) prog_2_method_23_code (3 : Nat) (Option.some Jvm.ClassFile.FieldType.int)) ∈ pT := List.mem_filter.mpr ⟨(tb_2 (List.mem_of_getElem? (i := 103) rfl)), by decide +kernel⟩
set_option maxRecDepth 100000 in
theorem w_708 : (Jvm.Cond.methodLink "ScarArmy$Army" (180 : Nat) ({ cls := "ScarArmy$Army", name := "isVoid", desc := "(I)Z" } : Jvm.MethodName)) ∈ pT := List.mem_filter.mpr ⟨(tb_2 (List.mem_of_getElem? (i := 104) rfl)), by decide +kernel⟩
set_option maxRecDepth 100000 in
theorem w_712 : (Jvm.Cond.code ({ cls := "ScarArmy", name := "lies", desc := "()I" } : Jvm.MethodName) prog_1_method_38_code (1 : Nat) (Option.some Jvm.ClassFile.FieldType.int)) ∈ pT := List.mem_filter.mpr ⟨(tb_2 (List.mem_of_getElem? (i := 108) rfl)), by decide +kernel⟩
set_option maxRecDepth 100000 in
theorem w_713 : (Jvm.Cond.methodLink "ScarArmy" (398 : Nat) ({ cls := "ScarArmy$Army", name := "falseScars", desc := "()I" } : Jvm.MethodName)) ∈ pT := List.mem_filter.mpr ⟨(tb_2 (List.mem_of_getElem? (i := 109) rfl)), by decide +kernel⟩
set_option maxRecDepth 100000 in
theorem w_714 : (Jvm.Cond.instanceMethod ({ cls := "ScarArmy$Army", name := "falseScars", desc := "()I" } : Jvm.MethodName)) ∈ pT := List.mem_filter.mpr ⟨(tb_2 (List.mem_of_getElem? (i := 110) rfl)), by decide +kernel⟩
set_option maxRecDepth 100000 in
theorem w_715 : (Jvm.Cond.selects "ScarArmy$Army" ({ cls := "ScarArmy$Army", name := "falseScars", desc := "()I" } : Jvm.MethodName) ({ cls := "ScarArmy$Army", name := "falseScars", desc := "()I" } : Jvm.MethodName)) ∈ pT := List.mem_filter.mpr ⟨(tb_2 (List.mem_of_getElem? (i := 111) rfl)), by decide +kernel⟩
set_option maxRecDepth 100000 in
theorem w_716 : (Jvm.Cond.code ({ cls := "ScarArmy$Army", name := "falseScars", desc := "()I" } : Jvm.MethodName) prog_2_method_24_code (5 : Nat) (Option.some Jvm.ClassFile.FieldType.int)) ∈ pT := List.mem_filter.mpr ⟨(tb_2 (List.mem_of_getElem? (i := 112) rfl)), by decide +kernel⟩
set_option maxRecDepth 100000 in
theorem w_720 : (Jvm.Cond.code ({ cls := "ScarArmy", name := "crosswise", desc := "()I" } : Jvm.MethodName) prog_1_method_39_code (1 : Nat) (Option.some Jvm.ClassFile.FieldType.int)) ∈ pT := List.mem_filter.mpr ⟨(tb_2 (List.mem_of_getElem? (i := 116) rfl)), by decide +kernel⟩
set_option maxRecDepth 100000 in
theorem w_721 : (Jvm.Cond.methodLink "ScarArmy" (401 : Nat) ({ cls := "ScarArmy$Men", name := "underDeadNames", desc := "()I" } : Jvm.MethodName)) ∈ pT := List.mem_filter.mpr ⟨(tb_2 (List.mem_of_getElem? (i := 117) rfl)), by decide +kernel⟩
set_option maxRecDepth 100000 in
theorem w_722 : (Jvm.Cond.instanceMethod ({ cls := "ScarArmy$Men", name := "underDeadNames", desc := "()I" } : Jvm.MethodName)) ∈ pT := List.mem_filter.mpr ⟨(tb_2 (List.mem_of_getElem? (i := 118) rfl)), by decide +kernel⟩
set_option maxRecDepth 100000 in
theorem w_723 : (Jvm.Cond.selects "ScarArmy$Men" ({ cls := "ScarArmy$Men", name := "underDeadNames", desc := "()I" } : Jvm.MethodName) ({ cls := "ScarArmy$Men", name := "underDeadNames", desc := "()I" } : Jvm.MethodName)) ∈ pT := List.mem_filter.mpr ⟨(tb_2 (List.mem_of_getElem? (i := 119) rfl)), by decide +kernel⟩
set_option maxRecDepth 100000 in
theorem w_724 : (Jvm.Cond.code ({ cls := "ScarArmy$Men", name := "underDeadNames", desc := "()I" } : Jvm.MethodName) prog_9_method_14_code (3 : Nat) (Option.some Jvm.ClassFile.FieldType.int)) ∈ pT := List.mem_filter.mpr ⟨(tb_2 (List.mem_of_getElem? (i := 120) rfl)), by decide +kernel⟩
set_option maxRecDepth 100000 in
theorem w_728 : (Jvm.Cond.code ({ cls := "ScarArmy", name := "seed", desc := "(I)I" } : Jvm.MethodName) prog_1_method_44_code (3 : Nat) (Option.some Jvm.ClassFile.FieldType.int)) ∈ pT := List.mem_filter.mpr ⟨(tb_2 (List.mem_of_getElem? (i := 124) rfl)), by decide +kernel⟩
set_option maxRecDepth 100000 in
theorem w_732 : (Jvm.Cond.code ({ cls := "ScarArmy", name := "undo", desc := "()Z" } : Jvm.MethodName) prog_1_method_45_code (1 : Nat) (Option.some Jvm.ClassFile.FieldType.boolean)) ∈ pT := List.mem_filter.mpr ⟨(tb_2 (List.mem_of_getElem? (i := 128) rfl)), by decide +kernel⟩
set_option maxRecDepth 100000 in
theorem w_733 : (Jvm.Cond.methodLink "ScarArmy" (423 : Nat) ({ cls := "ScarArmy$Memory", name := "recall", desc := "(LScarArmy$Army;)Z" } : Jvm.MethodName)) ∈ pT := List.mem_filter.mpr ⟨(tb_2 (List.mem_of_getElem? (i := 129) rfl)), by decide +kernel⟩
set_option maxRecDepth 100000 in
theorem w_734 : (Jvm.Cond.instanceMethod ({ cls := "ScarArmy$Memory", name := "recall", desc := "(LScarArmy$Army;)Z" } : Jvm.MethodName)) ∈ pT := List.mem_filter.mpr ⟨(tb_2 (List.mem_of_getElem? (i := 130) rfl)), by decide +kernel⟩
set_option maxRecDepth 100000 in
theorem w_735 : (Jvm.Cond.selects "ScarArmy$Memory" ({ cls := "ScarArmy$Memory", name := "recall", desc := "(LScarArmy$Army;)Z" } : Jvm.MethodName) ({ cls := "ScarArmy$Memory", name := "recall", desc := "(LScarArmy$Army;)Z" } : Jvm.MethodName)) ∈ pT := List.mem_filter.mpr ⟨(tb_2 (List.mem_of_getElem? (i := 131) rfl)), by decide +kernel⟩
set_option maxRecDepth 100000 in
theorem w_736 : (Jvm.Cond.code ({ cls := "ScarArmy$Memory", name := "recall", desc := "(LScarArmy$Army;)Z" } : Jvm.MethodName) prog_8_method_3_code (2 : Nat) (Option.some Jvm.ClassFile.FieldType.boolean)) ∈ pT := List.mem_filter.mpr ⟨(tb_2 (List.mem_of_getElem? (i := 132) rfl)), by decide +kernel⟩
set_option maxRecDepth 100000 in
theorem w_737 : (Jvm.Cond.methodLink "ScarArmy$Memory" (25 : Nat) ({ cls := "ScarArmy$Army", name := "copyFrom", desc := "(LScarArmy$Army;)V" } : Jvm.MethodName)) ∈ pT := List.mem_filter.mpr ⟨(tb_2 (List.mem_of_getElem? (i := 133) rfl)), by decide +kernel⟩
set_option maxRecDepth 100000 in
theorem w_738 : (Jvm.Cond.instanceMethod ({ cls := "ScarArmy$Army", name := "copyFrom", desc := "(LScarArmy$Army;)V" } : Jvm.MethodName)) ∈ pT := List.mem_filter.mpr ⟨(tb_2 (List.mem_of_getElem? (i := 134) rfl)), by decide +kernel⟩
set_option maxRecDepth 100000 in
theorem w_739 : (Jvm.Cond.selects "ScarArmy$Army" ({ cls := "ScarArmy$Army", name := "copyFrom", desc := "(LScarArmy$Army;)V" } : Jvm.MethodName) ({ cls := "ScarArmy$Army", name := "copyFrom", desc := "(LScarArmy$Army;)V" } : Jvm.MethodName)) ∈ pT := List.mem_filter.mpr ⟨(tb_2 (List.mem_of_getElem? (i := 135) rfl)), by decide +kernel⟩
set_option maxRecDepth 100000 in
theorem w_740 : (Jvm.Cond.code ({ cls := "ScarArmy$Army", name := "copyFrom", desc := "(LScarArmy$Army;)V" } : Jvm.MethodName) prog_2_method_2_code (2 : Nat) (Option.none : Option Jvm.ClassFile.FieldType)) ∈ pT := List.mem_filter.mpr ⟨(tb_2 (List.mem_of_getElem? (i := 136) rfl)), by decide +kernel⟩
set_option maxRecDepth 100000 in
theorem w_741 : (Jvm.Cond.methodLink "ScarArmy$Army" (59 : Nat) ({ cls := "ScarArmy$Battles", name := "copyFrom", desc := "(LScarArmy$Battles;)V" } : Jvm.MethodName)) ∈ pT := List.mem_filter.mpr ⟨(tb_2 (List.mem_of_getElem? (i := 137) rfl)), by decide +kernel⟩
set_option maxRecDepth 100000 in
theorem w_742 : (Jvm.Cond.instanceMethod ({ cls := "ScarArmy$Battles", name := "copyFrom", desc := "(LScarArmy$Battles;)V" } : Jvm.MethodName)) ∈ pT := List.mem_filter.mpr ⟨(tb_2 (List.mem_of_getElem? (i := 138) rfl)), by decide +kernel⟩
set_option maxRecDepth 100000 in
theorem w_743 : (Jvm.Cond.selects "ScarArmy$Battles" ({ cls := "ScarArmy$Battles", name := "copyFrom", desc := "(LScarArmy$Battles;)V" } : Jvm.MethodName) ({ cls := "ScarArmy$Battles", name := "copyFrom", desc := "(LScarArmy$Battles;)V" } : Jvm.MethodName)) ∈ pT := List.mem_filter.mpr ⟨(tb_2 (List.mem_of_getElem? (i := 139) rfl)), by decide +kernel⟩
set_option maxRecDepth 100000 in
theorem w_744 : (Jvm.Cond.code ({ cls := "ScarArmy$Battles", name := "copyFrom", desc := "(LScarArmy$Battles;)V" } : Jvm.MethodName) prog_4_method_2_code (2 : Nat) (Option.none : Option Jvm.ClassFile.FieldType)) ∈ pT := List.mem_filter.mpr ⟨(tb_2 (List.mem_of_getElem? (i := 140) rfl)), by decide +kernel⟩
set_option maxRecDepth 100000 in
theorem w_745 : (Jvm.Cond.methodLink "ScarArmy$Battles" (25 : Nat) ({ cls := "java/lang/System", name := "arraycopy", desc := "(Ljava/lang/Object;ILjava/lang/Object;II)V" } : Jvm.MethodName)) ∈ pT := List.mem_filter.mpr ⟨(tb_2 (List.mem_of_getElem? (i := 141) rfl)), by decide +kernel⟩
set_option maxRecDepth 100000 in
theorem w_746 : (Jvm.Cond.static ({ cls := "java/lang/System", name := "arraycopy", desc := "(Ljava/lang/Object;ILjava/lang/Object;II)V" } : Jvm.MethodName)) ∈ pT := List.mem_filter.mpr ⟨(tb_2 (List.mem_of_getElem? (i := 142) rfl)), by decide +kernel⟩
set_option maxRecDepth 100000 in
theorem w_747 : (Jvm.Cond.native ({ cls := "java/lang/System", name := "arraycopy", desc := "(Ljava/lang/Object;ILjava/lang/Object;II)V" } : Jvm.MethodName)) ∈ pT := List.mem_filter.mpr ⟨(tb_2 (List.mem_of_getElem? (i := 143) rfl)), by decide +kernel⟩
set_option maxRecDepth 100000 in
theorem w_748 : (Jvm.Cond.methodLink "ScarArmy$Army" (63 : Nat) ({ cls := "ScarArmy$Men", name := "copyFrom", desc := "(LScarArmy$Men;)V" } : Jvm.MethodName)) ∈ pT := List.mem_filter.mpr ⟨(tb_2 (List.mem_of_getElem? (i := 144) rfl)), by decide +kernel⟩
set_option maxRecDepth 100000 in
theorem w_749 : (Jvm.Cond.instanceMethod ({ cls := "ScarArmy$Men", name := "copyFrom", desc := "(LScarArmy$Men;)V" } : Jvm.MethodName)) ∈ pT := List.mem_filter.mpr ⟨(tb_2 (List.mem_of_getElem? (i := 145) rfl)), by decide +kernel⟩
set_option maxRecDepth 100000 in
theorem w_750 : (Jvm.Cond.selects "ScarArmy$Men" ({ cls := "ScarArmy$Men", name := "copyFrom", desc := "(LScarArmy$Men;)V" } : Jvm.MethodName) ({ cls := "ScarArmy$Men", name := "copyFrom", desc := "(LScarArmy$Men;)V" } : Jvm.MethodName)) ∈ pT := List.mem_filter.mpr ⟨(tb_2 (List.mem_of_getElem? (i := 146) rfl)), by decide +kernel⟩
set_option maxRecDepth 100000 in
theorem w_751 : (Jvm.Cond.code ({ cls := "ScarArmy$Men", name := "copyFrom", desc := "(LScarArmy$Men;)V" } : Jvm.MethodName) prog_9_method_2_code (2 : Nat) (Option.none : Option Jvm.ClassFile.FieldType)) ∈ pT := List.mem_filter.mpr ⟨(tb_2 (List.mem_of_getElem? (i := 147) rfl)), by decide +kernel⟩
set_option maxRecDepth 100000 in
theorem w_752 : (Jvm.Cond.methodLink "ScarArmy$Men" (25 : Nat) ({ cls := "java/lang/System", name := "arraycopy", desc := "(Ljava/lang/Object;ILjava/lang/Object;II)V" } : Jvm.MethodName)) ∈ pT := List.mem_filter.mpr ⟨(tb_2 (List.mem_of_getElem? (i := 148) rfl)), by decide +kernel⟩
set_option maxRecDepth 100000 in
theorem w_753 : (Jvm.Cond.methodLink "ScarArmy$Army" (66 : Nat) ({ cls := "ScarArmy$Scars", name := "copyFrom", desc := "(LScarArmy$Scars;)V" } : Jvm.MethodName)) ∈ pT := List.mem_filter.mpr ⟨(tb_2 (List.mem_of_getElem? (i := 149) rfl)), by decide +kernel⟩
set_option maxRecDepth 100000 in
theorem w_754 : (Jvm.Cond.instanceMethod ({ cls := "ScarArmy$Scars", name := "copyFrom", desc := "(LScarArmy$Scars;)V" } : Jvm.MethodName)) ∈ pT := List.mem_filter.mpr ⟨(tb_2 (List.mem_of_getElem? (i := 150) rfl)), by decide +kernel⟩
set_option maxRecDepth 100000 in
theorem w_755 : (Jvm.Cond.selects "ScarArmy$Scars" ({ cls := "ScarArmy$Scars", name := "copyFrom", desc := "(LScarArmy$Scars;)V" } : Jvm.MethodName) ({ cls := "ScarArmy$Scars", name := "copyFrom", desc := "(LScarArmy$Scars;)V" } : Jvm.MethodName)) ∈ pT := List.mem_filter.mpr ⟨(tb_2 (List.mem_of_getElem? (i := 151) rfl)), by decide +kernel⟩
set_option maxRecDepth 100000 in
theorem w_756 : (Jvm.Cond.code ({ cls := "ScarArmy$Scars", name := "copyFrom", desc := "(LScarArmy$Scars;)V" } : Jvm.MethodName) prog_10_method_2_code (2 : Nat) (Option.none : Option Jvm.ClassFile.FieldType)) ∈ pT := List.mem_filter.mpr ⟨(tb_2 (List.mem_of_getElem? (i := 152) rfl)), by decide +kernel⟩
set_option maxRecDepth 100000 in
theorem w_757 : (Jvm.Cond.methodLink "ScarArmy$Scars" (40 : Nat) ({ cls := "java/lang/System", name := "arraycopy", desc := "(Ljava/lang/Object;ILjava/lang/Object;II)V" } : Jvm.MethodName)) ∈ pT := List.mem_filter.mpr ⟨(tb_2 (List.mem_of_getElem? (i := 153) rfl)), by decide +kernel⟩
set_option maxRecDepth 100000 in
theorem w_758 : (Jvm.Cond.methodLink "ScarArmy$Army" (69 : Nat) ({ cls := "ScarArmy$Log", name := "copyFrom", desc := "(LScarArmy$Log;)V" } : Jvm.MethodName)) ∈ pT := List.mem_filter.mpr ⟨(tb_2 (List.mem_of_getElem? (i := 154) rfl)), by decide +kernel⟩
set_option maxRecDepth 100000 in
theorem w_759 : (Jvm.Cond.instanceMethod ({ cls := "ScarArmy$Log", name := "copyFrom", desc := "(LScarArmy$Log;)V" } : Jvm.MethodName)) ∈ pT := List.mem_filter.mpr ⟨(tb_2 (List.mem_of_getElem? (i := 155) rfl)), by decide +kernel⟩
set_option maxRecDepth 100000 in
theorem w_760 : (Jvm.Cond.selects "ScarArmy$Log" ({ cls := "ScarArmy$Log", name := "copyFrom", desc := "(LScarArmy$Log;)V" } : Jvm.MethodName) ({ cls := "ScarArmy$Log", name := "copyFrom", desc := "(LScarArmy$Log;)V" } : Jvm.MethodName)) ∈ pT := List.mem_filter.mpr ⟨(tb_2 (List.mem_of_getElem? (i := 156) rfl)), by decide +kernel⟩
set_option maxRecDepth 100000 in
theorem w_761 : (Jvm.Cond.code ({ cls := "ScarArmy$Log", name := "copyFrom", desc := "(LScarArmy$Log;)V" } : Jvm.MethodName) prog_7_method_2_code (2 : Nat) (Option.none : Option Jvm.ClassFile.FieldType)) ∈ pT := List.mem_filter.mpr ⟨(tb_2 (List.mem_of_getElem? (i := 157) rfl)), by decide +kernel⟩
set_option maxRecDepth 100000 in
theorem w_762 : (Jvm.Cond.methodLink "ScarArmy$Log" (22 : Nat) ({ cls := "java/lang/System", name := "arraycopy", desc := "(Ljava/lang/Object;ILjava/lang/Object;II)V" } : Jvm.MethodName)) ∈ pT := List.mem_filter.mpr ⟨(tb_2 (List.mem_of_getElem? (i := 158) rfl)), by decide +kernel⟩
set_option maxRecDepth 100000 in
theorem w_766 : (Jvm.Cond.code ({ cls := "ScarArmy", name := "image", desc := "()V" } : Jvm.MethodName) prog_1_method_46_code (1 : Nat) (Option.none : Option Jvm.ClassFile.FieldType)) ∈ pT := List.mem_filter.mpr ⟨(tb_2 (List.mem_of_getElem? (i := 162) rfl)), by decide +kernel⟩
set_option maxRecDepth 100000 in
theorem w_767 : (Jvm.Cond.methodLink "ScarArmy" (74 : Nat) ({ cls := "ScarArmy$Army", name := "copyFrom", desc := "(LScarArmy$Army;)V" } : Jvm.MethodName)) ∈ pT := List.mem_filter.mpr ⟨(tb_2 (List.mem_of_getElem? (i := 163) rfl)), by decide +kernel⟩
set_option maxRecDepth 100000 in
theorem w_771 : (Jvm.Cond.code ({ cls := "ScarArmy", name := "back", desc := "()Z" } : Jvm.MethodName) prog_1_method_47_code (1 : Nat) (Option.some Jvm.ClassFile.FieldType.boolean)) ∈ pT := List.mem_filter.mpr ⟨(tb_2 (List.mem_of_getElem? (i := 167) rfl)), by decide +kernel⟩
set_option maxRecDepth 100000 in
theorem w_772 : (Jvm.Cond.methodLink "ScarArmy" (97 : Nat) ({ cls := "ScarArmy$Memory", name := "forget", desc := "()V" } : Jvm.MethodName)) ∈ pT := List.mem_filter.mpr ⟨(tb_2 (List.mem_of_getElem? (i := 168) rfl)), by decide +kernel⟩
set_option maxRecDepth 100000 in
theorem w_773 : (Jvm.Cond.instanceMethod ({ cls := "ScarArmy$Memory", name := "forget", desc := "()V" } : Jvm.MethodName)) ∈ pT := List.mem_filter.mpr ⟨(tb_2 (List.mem_of_getElem? (i := 169) rfl)), by decide +kernel⟩
set_option maxRecDepth 100000 in
theorem w_774 : (Jvm.Cond.selects "ScarArmy$Memory" ({ cls := "ScarArmy$Memory", name := "forget", desc := "()V" } : Jvm.MethodName) ({ cls := "ScarArmy$Memory", name := "forget", desc := "()V" } : Jvm.MethodName)) ∈ pT := List.mem_filter.mpr ⟨(tb_2 (List.mem_of_getElem? (i := 170) rfl)), by decide +kernel⟩
set_option maxRecDepth 100000 in
theorem w_775 : (Jvm.Cond.code ({ cls := "ScarArmy$Memory", name := "forget", desc := "()V" } : Jvm.MethodName) prog_8_method_4_code (1 : Nat) (Option.none : Option Jvm.ClassFile.FieldType)) ∈ pT := List.mem_filter.mpr ⟨(tb_2 (List.mem_of_getElem? (i := 171) rfl)), by decide +kernel⟩
set_option maxRecDepth 100000 in
theorem w_779 : (Jvm.Cond.code ({ cls := "ScarArmy", name := "count", desc := "(I)I" } : Jvm.MethodName) prog_1_method_48_code (2 : Nat) (Option.some Jvm.ClassFile.FieldType.int)) ∈ pT := List.mem_filter.mpr ⟨(tb_2 (List.mem_of_getElem? (i := 175) rfl)), by decide +kernel⟩
set_option maxRecDepth 100000 in
theorem w_780 : (Jvm.Cond.methodLink "ScarArmy" (435 : Nat) ({ cls := "ScarArmy$Men", name := "coinsOfAll", desc := "()I" } : Jvm.MethodName)) ∈ pT := List.mem_filter.mpr ⟨(tb_2 (List.mem_of_getElem? (i := 176) rfl)), by decide +kernel⟩
set_option maxRecDepth 100000 in
theorem w_781 : (Jvm.Cond.instanceMethod ({ cls := "ScarArmy$Men", name := "coinsOfAll", desc := "()I" } : Jvm.MethodName)) ∈ pT := List.mem_filter.mpr ⟨(tb_2 (List.mem_of_getElem? (i := 177) rfl)), by decide +kernel⟩
set_option maxRecDepth 100000 in
theorem w_782 : (Jvm.Cond.selects "ScarArmy$Men" ({ cls := "ScarArmy$Men", name := "coinsOfAll", desc := "()I" } : Jvm.MethodName) ({ cls := "ScarArmy$Men", name := "coinsOfAll", desc := "()I" } : Jvm.MethodName)) ∈ pT := List.mem_filter.mpr ⟨(tb_2 (List.mem_of_getElem? (i := 178) rfl)), by decide +kernel⟩
set_option maxRecDepth 100000 in
theorem w_783 : (Jvm.Cond.code ({ cls := "ScarArmy$Men", name := "coinsOfAll", desc := "()I" } : Jvm.MethodName) prog_9_method_8_code (3 : Nat) (Option.some Jvm.ClassFile.FieldType.int)) ∈ pT := List.mem_filter.mpr ⟨(tb_2 (List.mem_of_getElem? (i := 179) rfl)), by decide +kernel⟩
set_option maxRecDepth 100000 in
theorem w_784 : (Jvm.Cond.methodLink "ScarArmy" (440 : Nat) ({ cls := "ScarArmy$Army", name := "worthOfAll", desc := "()I" } : Jvm.MethodName)) ∈ pT := List.mem_filter.mpr ⟨(tb_2 (List.mem_of_getElem? (i := 180) rfl)), by decide +kernel⟩
set_option maxRecDepth 100000 in
theorem w_785 : (Jvm.Cond.instanceMethod ({ cls := "ScarArmy$Army", name := "worthOfAll", desc := "()I" } : Jvm.MethodName)) ∈ pT := List.mem_filter.mpr ⟨(tb_2 (List.mem_of_getElem? (i := 181) rfl)), by decide +kernel⟩
set_option maxRecDepth 100000 in
theorem w_786 : (Jvm.Cond.selects "ScarArmy$Army" ({ cls := "ScarArmy$Army", name := "worthOfAll", desc := "()I" } : Jvm.MethodName) ({ cls := "ScarArmy$Army", name := "worthOfAll", desc := "()I" } : Jvm.MethodName)) ∈ pT := List.mem_filter.mpr ⟨(tb_2 (List.mem_of_getElem? (i := 182) rfl)), by decide +kernel⟩
set_option maxRecDepth 100000 in
theorem w_787 : (Jvm.Cond.code ({ cls := "ScarArmy$Army", name := "worthOfAll", desc := "()I" } : Jvm.MethodName) prog_2_method_6_code (3 : Nat) (Option.some Jvm.ClassFile.FieldType.int)) ∈ pT := List.mem_filter.mpr ⟨(tb_2 (List.mem_of_getElem? (i := 183) rfl)), by decide +kernel⟩
set_option maxRecDepth 100000 in
theorem w_796 : (Jvm.Cond.code ({ cls := "ScarArmy", name := "army", desc := "()I" } : Jvm.MethodName) prog_1_method_4_code (1 : Nat) (Option.some Jvm.ClassFile.FieldType.int)) ∈ pT := List.mem_filter.mpr ⟨(tb_2 (List.mem_of_getElem? (i := 192) rfl)), by decide +kernel⟩
set_option maxRecDepth 100000 in
theorem w_797 : (Jvm.Cond.methodLink "ScarArmy" (78 : Nat) ({ cls := "ScarArmy$ArmyText", name := "read", desc := "(LScarArmy$Army;)I" } : Jvm.MethodName)) ∈ pT := List.mem_filter.mpr ⟨(tb_2 (List.mem_of_getElem? (i := 193) rfl)), by decide +kernel⟩
set_option maxRecDepth 100000 in
theorem w_798 : (Jvm.Cond.instanceMethod ({ cls := "ScarArmy$ArmyText", name := "read", desc := "(LScarArmy$Army;)I" } : Jvm.MethodName)) ∈ pT := List.mem_filter.mpr ⟨(tb_2 (List.mem_of_getElem? (i := 194) rfl)), by decide +kernel⟩
set_option maxRecDepth 100000 in
theorem w_799 : (Jvm.Cond.selects "ScarArmy$ArmyText" ({ cls := "ScarArmy$ArmyText", name := "read", desc := "(LScarArmy$Army;)I" } : Jvm.MethodName) ({ cls := "ScarArmy$ArmyText", name := "read", desc := "(LScarArmy$Army;)I" } : Jvm.MethodName)) ∈ pT := List.mem_filter.mpr ⟨(tb_2 (List.mem_of_getElem? (i := 195) rfl)), by decide +kernel⟩
set_option maxRecDepth 100000 in
theorem w_800 : (Jvm.Cond.code ({ cls := "ScarArmy$ArmyText", name := "read", desc := "(LScarArmy$Army;)I" } : Jvm.MethodName) prog_3_method_2_code (3 : Nat) (Option.some Jvm.ClassFile.FieldType.int)) ∈ pT := List.mem_filter.mpr ⟨(tb_2 (List.mem_of_getElem? (i := 196) rfl)), by decide +kernel⟩
set_option maxRecDepth 100000 in
theorem w_801 : (Jvm.Cond.methodLink "ScarArmy$ArmyText" (15 : Nat) ({ cls := "ScarArmy$Tape", name := "open", desc := "()V" } : Jvm.MethodName)) ∈ pT := List.mem_filter.mpr ⟨(tb_2 (List.mem_of_getElem? (i := 197) rfl)), by decide +kernel⟩
set_option maxRecDepth 100000 in
theorem w_802 : (Jvm.Cond.instanceMethod ({ cls := "ScarArmy$Tape", name := "open", desc := "()V" } : Jvm.MethodName)) ∈ pT := List.mem_filter.mpr ⟨(tb_2 (List.mem_of_getElem? (i := 198) rfl)), by decide +kernel⟩
set_option maxRecDepth 100000 in
theorem w_803 : (Jvm.Cond.selects "ScarArmy$Tape" ({ cls := "ScarArmy$Tape", name := "open", desc := "()V" } : Jvm.MethodName) ({ cls := "ScarArmy$Tape", name := "open", desc := "()V" } : Jvm.MethodName)) ∈ pT := List.mem_filter.mpr ⟨(tb_2 (List.mem_of_getElem? (i := 199) rfl)), by decide +kernel⟩
set_option maxRecDepth 100000 in
theorem w_804 : (Jvm.Cond.code ({ cls := "ScarArmy$Tape", name := "open", desc := "()V" } : Jvm.MethodName) prog_12_method_4_code (1 : Nat) (Option.none : Option Jvm.ClassFile.FieldType)) ∈ pT := List.mem_filter.mpr ⟨(tb_2 (List.mem_of_getElem? (i := 200) rfl)), by decide +kernel⟩
set_option maxRecDepth 100000 in
theorem w_805 : (Jvm.Cond.methodLink "ScarArmy$Tape" (32 : Nat) ({ cls := "ScarArmy$Tape", name := "advance", desc := "()V" } : Jvm.MethodName)) ∈ pT := List.mem_filter.mpr ⟨(tb_2 (List.mem_of_getElem? (i := 201) rfl)), by decide +kernel⟩
set_option maxRecDepth 100000 in
theorem w_806 : (Jvm.Cond.instanceMethod ({ cls := "ScarArmy$Tape", name := "advance", desc := "()V" } : Jvm.MethodName)) ∈ pT := List.mem_filter.mpr ⟨(tb_2 (List.mem_of_getElem? (i := 202) rfl)), by decide +kernel⟩
set_option maxRecDepth 100000 in
theorem w_807 : (Jvm.Cond.selects "ScarArmy$Tape" ({ cls := "ScarArmy$Tape", name := "advance", desc := "()V" } : Jvm.MethodName) ({ cls := "ScarArmy$Tape", name := "advance", desc := "()V" } : Jvm.MethodName)) ∈ pT := List.mem_filter.mpr ⟨(tb_2 (List.mem_of_getElem? (i := 203) rfl)), by decide +kernel⟩
set_option maxRecDepth 100000 in
theorem w_808 : (Jvm.Cond.code ({ cls := "ScarArmy$Tape", name := "advance", desc := "()V" } : Jvm.MethodName) prog_12_method_5_code (5 : Nat) (Option.none : Option Jvm.ClassFile.FieldType)) ∈ pT := List.mem_filter.mpr ⟨(tb_2 (List.mem_of_getElem? (i := 204) rfl)), by decide +kernel⟩
set_option maxRecDepth 100000 in
theorem w_809 : (Jvm.Cond.methodLink "ScarArmy$Tape" (35 : Nat) ({ cls := "java/lang/Math", name := "min", desc := "(II)I" } : Jvm.MethodName)) ∈ pT := List.mem_filter.mpr ⟨(tb_2 (List.mem_of_getElem? (i := 205) rfl)), by decide +kernel⟩
set_option maxRecDepth 100000 in
theorem w_810 : (Jvm.Cond.static ({ cls := "java/lang/Math", name := "min", desc := "(II)I" } : Jvm.MethodName)) ∈ pT := List.mem_filter.mpr ⟨(tb_2 (List.mem_of_getElem? (i := 206) rfl)), by decide +kernel⟩
set_option maxRecDepth 100000 in
theorem w_811 : (Jvm.Cond.code ({ cls := "java/lang/Math", name := "min", desc := "(II)I" } : Jvm.MethodName) prog_24_method_69_code (2 : Nat) (Option.some Jvm.ClassFile.FieldType.int)) ∈ pT := List.mem_filter.mpr ⟨(tb_2 (List.mem_of_getElem? (i := 207) rfl)), by decide +kernel⟩
set_option maxRecDepth 100000 in
theorem w_812 : (Jvm.Cond.methodLink "ScarArmy$ArmyText" (20 : Nat) ({ cls := "ScarArmy$Tape", name := "atEnd", desc := "()Z" } : Jvm.MethodName)) ∈ pT := List.mem_filter.mpr ⟨(tb_2 (List.mem_of_getElem? (i := 208) rfl)), by decide +kernel⟩
set_option maxRecDepth 100000 in
theorem w_813 : (Jvm.Cond.instanceMethod ({ cls := "ScarArmy$Tape", name := "atEnd", desc := "()Z" } : Jvm.MethodName)) ∈ pT := List.mem_filter.mpr ⟨(tb_2 (List.mem_of_getElem? (i := 209) rfl)), by decide +kernel⟩
set_option maxRecDepth 100000 in
theorem w_814 : (Jvm.Cond.selects "ScarArmy$Tape" ({ cls := "ScarArmy$Tape", name := "atEnd", desc := "()Z" } : Jvm.MethodName) ({ cls := "ScarArmy$Tape", name := "atEnd", desc := "()Z" } : Jvm.MethodName)) ∈ pT := List.mem_filter.mpr ⟨(tb_2 (List.mem_of_getElem? (i := 210) rfl)), by decide +kernel⟩
set_option maxRecDepth 100000 in
theorem w_815 : (Jvm.Cond.code ({ cls := "ScarArmy$Tape", name := "atEnd", desc := "()Z" } : Jvm.MethodName) prog_12_method_6_code (1 : Nat) (Option.some Jvm.ClassFile.FieldType.boolean)) ∈ pT := List.mem_filter.mpr ⟨(tb_2 (List.mem_of_getElem? (i := 211) rfl)), by decide +kernel⟩
set_option maxRecDepth 100000 in
theorem w_816 : (Jvm.Cond.methodLink "ScarArmy$ArmyText" (24 : Nat) ({ cls := "ScarArmy$ArmyText", name := "readLine", desc := "(LScarArmy$Army;)Z" } : Jvm.MethodName)) ∈ pT := List.mem_filter.mpr ⟨(tb_2 (List.mem_of_getElem? (i := 212) rfl)), by decide +kernel⟩
set_option maxRecDepth 100000 in
theorem w_818 : (Jvm.Cond.instanceMethod ({ cls := "ScarArmy$ArmyText", name := "readLine", desc := "(LScarArmy$Army;)Z" } : Jvm.MethodName)) ∈ pT := List.mem_filter.mpr ⟨(tb_2 (List.mem_of_getElem? (i := 214) rfl)), by decide +kernel⟩
set_option maxRecDepth 100000 in
theorem w_819 : (Jvm.Cond.code ({ cls := "ScarArmy$ArmyText", name := "readLine", desc := "(LScarArmy$Army;)Z" } : Jvm.MethodName) prog_3_method_3_code (3 : Nat) (Option.some Jvm.ClassFile.FieldType.boolean)) ∈ pT := List.mem_filter.mpr ⟨(tb_2 (List.mem_of_getElem? (i := 215) rfl)), by decide +kernel⟩
set_option maxRecDepth 100000 in
theorem w_821 : (Jvm.Cond.methodLink "ScarArmy$ArmyText" (40 : Nat) ({ cls := "ScarArmy$Tape", name := "is", desc := "(Ljava/lang/String;)Z" } : Jvm.MethodName)) ∈ pT := List.mem_filter.mpr ⟨(tb_2 (List.mem_of_getElem? (i := 217) rfl)), by decide +kernel⟩
set_option maxRecDepth 100000 in
theorem w_822 : (Jvm.Cond.instanceMethod ({ cls := "ScarArmy$Tape", name := "is", desc := "(Ljava/lang/String;)Z" } : Jvm.MethodName)) ∈ pT := List.mem_filter.mpr ⟨(tb_2 (List.mem_of_getElem? (i := 218) rfl)), by decide +kernel⟩
set_option maxRecDepth 100000 in
theorem w_823 : (Jvm.Cond.selects "ScarArmy$Tape" ({ cls := "ScarArmy$Tape", name := "is", desc := "(Ljava/lang/String;)Z" } : Jvm.MethodName) ({ cls := "ScarArmy$Tape", name := "is", desc := "(Ljava/lang/String;)Z" } : Jvm.MethodName)) ∈ pT := List.mem_filter.mpr ⟨(tb_2 (List.mem_of_getElem? (i := 219) rfl)), by decide +kernel⟩
set_option maxRecDepth 100000 in
theorem w_824 : (Jvm.Cond.code ({ cls := "ScarArmy$Tape", name := "is", desc := "(Ljava/lang/String;)Z" } : Jvm.MethodName) prog_12_method_7_code (4 : Nat) (Option.some Jvm.ClassFile.FieldType.boolean)) ∈ pT := List.mem_filter.mpr ⟨(tb_2 (List.mem_of_getElem? (i := 220) rfl)), by decide +kernel⟩
set_option maxRecDepth 100000 in
theorem w_825 : (Jvm.Cond.methodLink "ScarArmy$Tape" (41 : Nat) ({ cls := "java/lang/String", name := "length", desc := "()I" } : Jvm.MethodName)) ∈ pT := List.mem_filter.mpr ⟨(tb_2 (List.mem_of_getElem? (i := 221) rfl)), by decide +kernel⟩
set_option maxRecDepth 100000 in
theorem w_826 : (Jvm.Cond.instanceMethod ({ cls := "java/lang/String", name := "length", desc := "()I" } : Jvm.MethodName)) ∈ pT := List.mem_filter.mpr ⟨(tb_2 (List.mem_of_getElem? (i := 222) rfl)), by decide +kernel⟩
set_option maxRecDepth 100000 in
theorem w_827 : (Jvm.Cond.selects "java/lang/String" ({ cls := "java/lang/String", name := "length", desc := "()I" } : Jvm.MethodName) ({ cls := "java/lang/String", name := "length", desc := "()I" } : Jvm.MethodName)) ∈ pT := List.mem_filter.mpr ⟨(tb_2 (List.mem_of_getElem? (i := 223) rfl)), by decide +kernel⟩
set_option maxRecDepth 100000 in
theorem w_828 : (Jvm.Cond.code ({ cls := "java/lang/String", name := "length", desc := "()I" } : Jvm.MethodName) prog_26_method_54_code (1 : Nat) (Option.some Jvm.ClassFile.FieldType.int)) ∈ pT := List.mem_filter.mpr ⟨(tb_2 (List.mem_of_getElem? (i := 224) rfl)), by decide +kernel⟩
set_option maxRecDepth 100000 in
theorem w_829 : (Jvm.Cond.methodLink "java/lang/String" (335 : Nat) ({ cls := "java/lang/String", name := "coder", desc := "()B" } : Jvm.MethodName)) ∈ pT := List.mem_filter.mpr ⟨(tb_2 (List.mem_of_getElem? (i := 225) rfl)), by decide +kernel⟩
set_option maxRecDepth 100000 in
theorem w_830 : (Jvm.Cond.instanceMethod ({ cls := "java/lang/String", name := "coder", desc := "()B" } : Jvm.MethodName)) ∈ pT := List.mem_filter.mpr ⟨(tb_2 (List.mem_of_getElem? (i := 226) rfl)), by decide +kernel⟩
set_option maxRecDepth 100000 in
theorem w_831 : (Jvm.Cond.selects "java/lang/String" ({ cls := "java/lang/String", name := "coder", desc := "()B" } : Jvm.MethodName) ({ cls := "java/lang/String", name := "coder", desc := "()B" } : Jvm.MethodName)) ∈ pT := List.mem_filter.mpr ⟨(tb_2 (List.mem_of_getElem? (i := 227) rfl)), by decide +kernel⟩
set_option maxRecDepth 100000 in
theorem w_832 : (Jvm.Cond.code ({ cls := "java/lang/String", name := "coder", desc := "()B" } : Jvm.MethodName) prog_26_method_152_code (1 : Nat) (Option.some Jvm.ClassFile.FieldType.byte)) ∈ pT := List.mem_filter.mpr ⟨(tb_2 (List.mem_of_getElem? (i := 228) rfl)), by decide +kernel⟩
set_option maxRecDepth 100000 in
theorem w_833 : (Jvm.Cond.fieldLink "java/lang/String" (38 : Nat) "java/lang/String" "COMPACT_STRINGS" "Z") ∈ pT := List.mem_filter.mpr ⟨(tb_2 (List.mem_of_getElem? (i := 229) rfl)), by decide +kernel⟩
set_option maxRecDepth 100000 in
theorem w_835 : (Jvm.Cond.methodLink "ScarArmy$Tape" (46 : Nat) ({ cls := "java/lang/String", name := "charAt", desc := "(I)C" } : Jvm.MethodName)) ∈ pT := List.mem_filter.mpr ⟨(tb_2 (List.mem_of_getElem? (i := 231) rfl)), by decide +kernel⟩
set_option maxRecDepth 100000 in
theorem w_836 : (Jvm.Cond.instanceMethod ({ cls := "java/lang/String", name := "charAt", desc := "(I)C" } : Jvm.MethodName)) ∈ pT := List.mem_filter.mpr ⟨(tb_2 (List.mem_of_getElem? (i := 232) rfl)), by decide +kernel⟩
set_option maxRecDepth 100000 in
theorem w_837 : (Jvm.Cond.selects "java/lang/String" ({ cls := "java/lang/String", name := "charAt", desc := "(I)C" } : Jvm.MethodName) ({ cls := "java/lang/String", name := "charAt", desc := "(I)C" } : Jvm.MethodName)) ∈ pT := List.mem_filter.mpr ⟨(tb_2 (List.mem_of_getElem? (i := 233) rfl)), by decide +kernel⟩
set_option maxRecDepth 100000 in
theorem w_838 : (Jvm.Cond.code ({ cls := "java/lang/String", name := "charAt", desc := "(I)C" } : Jvm.MethodName) prog_26_method_56_code (2 : Nat) (Option.some Jvm.ClassFile.FieldType.char)) ∈ pT := List.mem_filter.mpr ⟨(tb_2 (List.mem_of_getElem? (i := 234) rfl)), by decide +kernel⟩
set_option maxRecDepth 100000 in
theorem w_839 : (Jvm.Cond.methodLink "java/lang/String" (492 : Nat) ({ cls := "java/lang/String", name := "isLatin1", desc := "()Z" } : Jvm.MethodName)) ∈ pT := List.mem_filter.mpr ⟨(tb_2 (List.mem_of_getElem? (i := 235) rfl)), by decide +kernel⟩
set_option maxRecDepth 100000 in
theorem w_840 : (Jvm.Cond.instanceMethod ({ cls := "java/lang/String", name := "isLatin1", desc := "()Z" } : Jvm.MethodName)) ∈ pT := List.mem_filter.mpr ⟨(tb_2 (List.mem_of_getElem? (i := 236) rfl)), by decide +kernel⟩
set_option maxRecDepth 100000 in
theorem w_841 : (Jvm.Cond.selects "java/lang/String" ({ cls := "java/lang/String", name := "isLatin1", desc := "()Z" } : Jvm.MethodName) ({ cls := "java/lang/String", name := "isLatin1", desc := "()Z" } : Jvm.MethodName)) ∈ pT := List.mem_filter.mpr ⟨(tb_2 (List.mem_of_getElem? (i := 237) rfl)), by decide +kernel⟩
set_option maxRecDepth 100000 in
theorem w_842 : (Jvm.Cond.code ({ cls := "java/lang/String", name := "isLatin1", desc := "()Z" } : Jvm.MethodName) prog_26_method_154_code (1 : Nat) (Option.some Jvm.ClassFile.FieldType.boolean)) ∈ pT := List.mem_filter.mpr ⟨(tb_2 (List.mem_of_getElem? (i := 238) rfl)), by decide +kernel⟩
set_option maxRecDepth 100000 in
theorem w_843 : (Jvm.Cond.methodLink "java/lang/String" (495 : Nat) ({ cls := "java/lang/StringLatin1", name := "charAt", desc := "([BI)C" } : Jvm.MethodName)) ∈ pT := List.mem_filter.mpr ⟨(tb_2 (List.mem_of_getElem? (i := 239) rfl)), by decide +kernel⟩
set_option maxRecDepth 100000 in
theorem w_844 : (Jvm.Cond.static ({ cls := "java/lang/StringLatin1", name := "charAt", desc := "([BI)C" } : Jvm.MethodName)) ∈ pT := List.mem_filter.mpr ⟨(tb_3 (List.mem_of_getElem? (i := 0) rfl)), by decide +kernel⟩
set_option maxRecDepth 100000 in
theorem w_845 : (Jvm.Cond.code ({ cls := "java/lang/StringLatin1", name := "charAt", desc := "([BI)C" } : Jvm.MethodName) prog_27_method_2_code (2 : Nat) (Option.some Jvm.ClassFile.FieldType.char)) ∈ pT := List.mem_filter.mpr ⟨(tb_3 (List.mem_of_getElem? (i := 1) rfl)), by decide +kernel⟩
set_option maxRecDepth 100000 in
theorem w_846 : (Jvm.Cond.methodLink "java/lang/StringLatin1" (9 : Nat) ({ cls := "java/lang/String", name := "checkIndex", desc := "(II)V" } : Jvm.MethodName)) ∈ pT := List.mem_filter.mpr ⟨(tb_3 (List.mem_of_getElem? (i := 2) rfl)), by decide +kernel⟩
set_option maxRecDepth 100000 in
theorem w_847 : (Jvm.Cond.static ({ cls := "java/lang/String", name := "checkIndex", desc := "(II)V" } : Jvm.MethodName)) ∈ pT := List.mem_filter.mpr ⟨(tb_3 (List.mem_of_getElem? (i := 3) rfl)), by decide +kernel⟩
set_option maxRecDepth 100000 in
theorem w_848 : (Jvm.Cond.code ({ cls := "java/lang/String", name := "checkIndex", desc := "(II)V" } : Jvm.MethodName) prog_26_method_155_code (2 : Nat) (Option.none : Option Jvm.ClassFile.FieldType)) ∈ pT := List.mem_filter.mpr ⟨(tb_3 (List.mem_of_getElem? (i := 4) rfl)), by decide +kernel⟩
set_option maxRecDepth 100000 in
theorem w_849 : (Jvm.Cond.fieldLink "java/lang/String" (1053 : Nat) "jdk/internal/util/Preconditions" "SIOOBE_FORMATTER" "Ljava/util/function/BiFunction;") ∈ pT := List.mem_filter.mpr ⟨(tb_3 (List.mem_of_getElem? (i := 5) rfl)), by decide +kernel⟩
set_option maxRecDepth 100000 in
theorem w_851 : (Jvm.Cond.methodLink "java/lang/String" (1059 : Nat) ({ cls := "jdk/internal/util/Preconditions", name := "checkIndex", desc := "(IILjava/util/function/BiFunction;)I" } : Jvm.MethodName)) ∈ pT := List.mem_filter.mpr ⟨(tb_3 (List.mem_of_getElem? (i := 7) rfl)), by decide +kernel⟩
set_option maxRecDepth 100000 in
theorem w_852 : (Jvm.Cond.static ({ cls := "jdk/internal/util/Preconditions", name := "checkIndex", desc := "(IILjava/util/function/BiFunction;)I" } : Jvm.MethodName)) ∈ pT := List.mem_filter.mpr ⟨(tb_3 (List.mem_of_getElem? (i := 8) rfl)), by decide +kernel⟩
set_option maxRecDepth 100000 in
theorem w_853 : (Jvm.Cond.code ({ cls := "jdk/internal/util/Preconditions", name := "checkIndex", desc := "(IILjava/util/function/BiFunction;)I" } : Jvm.MethodName) prog_36_method_11_code (3 : Nat) (Option.some Jvm.ClassFile.FieldType.int)) ∈ pT := List.mem_filter.mpr ⟨(tb_3 (List.mem_of_getElem? (i := 9) rfl)), by decide +kernel⟩
set_option maxRecDepth 100000 in
theorem w_873 : (Jvm.Cond.methodLink "ScarArmy$ArmyText" (49 : Nat) ({ cls := "ScarArmy$ArmyText", name := "readBattle", desc := "(LScarArmy$Battles;)Z" } : Jvm.MethodName)) ∈ pT := List.mem_filter.mpr ⟨(tb_3 (List.mem_of_getElem? (i := 29) rfl)), by decide +kernel⟩
set_option maxRecDepth 100000 in
theorem w_875 : (Jvm.Cond.instanceMethod ({ cls := "ScarArmy$ArmyText", name := "readBattle", desc := "(LScarArmy$Battles;)Z" } : Jvm.MethodName)) ∈ pT := List.mem_filter.mpr ⟨(tb_3 (List.mem_of_getElem? (i := 31) rfl)), by decide +kernel⟩
set_option maxRecDepth 100000 in
theorem w_876 : (Jvm.Cond.code ({ cls := "ScarArmy$ArmyText", name := "readBattle", desc := "(LScarArmy$Battles;)Z" } : Jvm.MethodName) prog_3_method_4_code (6 : Nat) (Option.some Jvm.ClassFile.FieldType.boolean)) ∈ pT := List.mem_filter.mpr ⟨(tb_3 (List.mem_of_getElem? (i := 32) rfl)), by decide +kernel⟩
set_option maxRecDepth 100000 in
theorem w_877 : (Jvm.Cond.methodLink "ScarArmy$ArmyText" (103 : Nat) ({ cls := "ScarArmy$Tape", name := "advance", desc := "()V" } : Jvm.MethodName)) ∈ pT := List.mem_filter.mpr ⟨(tb_3 (List.mem_of_getElem? (i := 33) rfl)), by decide +kernel⟩
set_option maxRecDepth 100000 in
theorem w_878 : (Jvm.Cond.methodLink "ScarArmy$ArmyText" (80 : Nat) ({ cls := "ScarArmy$ArmyText", name := "takeNumber", desc := "(II)Z" } : Jvm.MethodName)) ∈ pT := List.mem_filter.mpr ⟨(tb_3 (List.mem_of_getElem? (i := 34) rfl)), by decide +kernel⟩
set_option maxRecDepth 100000 in
theorem w_880 : (Jvm.Cond.instanceMethod ({ cls := "ScarArmy$ArmyText", name := "takeNumber", desc := "(II)Z" } : Jvm.MethodName)) ∈ pT := List.mem_filter.mpr ⟨(tb_3 (List.mem_of_getElem? (i := 36) rfl)), by decide +kernel⟩
set_option maxRecDepth 100000 in
theorem w_881 : (Jvm.Cond.code ({ cls := "ScarArmy$ArmyText", name := "takeNumber", desc := "(II)Z" } : Jvm.MethodName) prog_3_method_8_code (3 : Nat) (Option.some Jvm.ClassFile.FieldType.boolean)) ∈ pT := List.mem_filter.mpr ⟨(tb_3 (List.mem_of_getElem? (i := 37) rfl)), by decide +kernel⟩
set_option maxRecDepth 100000 in
theorem w_882 : (Jvm.Cond.methodLink "ScarArmy$ArmyText" (142 : Nat) ({ cls := "ScarArmy$Tape", name := "takeNumber", desc := "(III)Z" } : Jvm.MethodName)) ∈ pT := List.mem_filter.mpr ⟨(tb_3 (List.mem_of_getElem? (i := 38) rfl)), by decide +kernel⟩
set_option maxRecDepth 100000 in
theorem w_883 : (Jvm.Cond.instanceMethod ({ cls := "ScarArmy$Tape", name := "takeNumber", desc := "(III)Z" } : Jvm.MethodName)) ∈ pT := List.mem_filter.mpr ⟨(tb_3 (List.mem_of_getElem? (i := 39) rfl)), by decide +kernel⟩
set_option maxRecDepth 100000 in
theorem w_884 : (Jvm.Cond.selects "ScarArmy$Tape" ({ cls := "ScarArmy$Tape", name := "takeNumber", desc := "(III)Z" } : Jvm.MethodName) ({ cls := "ScarArmy$Tape", name := "takeNumber", desc := "(III)Z" } : Jvm.MethodName)) ∈ pT := List.mem_filter.mpr ⟨(tb_3 (List.mem_of_getElem? (i := 40) rfl)), by decide +kernel⟩
set_option maxRecDepth 100000 in
theorem w_885 : (Jvm.Cond.code ({ cls := "ScarArmy$Tape", name := "takeNumber", desc := "(III)Z" } : Jvm.MethodName) prog_12_method_9_code (6 : Nat) (Option.some Jvm.ClassFile.FieldType.boolean)) ∈ pT := List.mem_filter.mpr ⟨(tb_3 (List.mem_of_getElem? (i := 41) rfl)), by decide +kernel⟩
set_option maxRecDepth 100000 in
theorem w_887 : (Jvm.Cond.methodLink "ScarArmy$ArmyText" (34 : Nat) ({ cls := "ScarArmy$Tape", name := "take", desc := "(Ljava/lang/String;)Z" } : Jvm.MethodName)) ∈ pT := List.mem_filter.mpr ⟨(tb_3 (List.mem_of_getElem? (i := 43) rfl)), by decide +kernel⟩
set_option maxRecDepth 100000 in
theorem w_888 : (Jvm.Cond.instanceMethod ({ cls := "ScarArmy$Tape", name := "take", desc := "(Ljava/lang/String;)Z" } : Jvm.MethodName)) ∈ pT := List.mem_filter.mpr ⟨(tb_3 (List.mem_of_getElem? (i := 44) rfl)), by decide +kernel⟩
set_option maxRecDepth 100000 in
theorem w_889 : (Jvm.Cond.selects "ScarArmy$Tape" ({ cls := "ScarArmy$Tape", name := "take", desc := "(Ljava/lang/String;)Z" } : Jvm.MethodName) ({ cls := "ScarArmy$Tape", name := "take", desc := "(Ljava/lang/String;)Z" } : Jvm.MethodName)) ∈ pT := List.mem_filter.mpr ⟨(tb_3 (List.mem_of_getElem? (i := 45) rfl)), by decide +kernel⟩
set_option maxRecDepth 100000 in
theorem w_890 : (Jvm.Cond.code ({ cls := "ScarArmy$Tape", name := "take", desc := "(Ljava/lang/String;)Z" } : Jvm.MethodName) prog_12_method_8_code (3 : Nat) (Option.some Jvm.ClassFile.FieldType.boolean)) ∈ pT := List.mem_filter.mpr ⟨(tb_3 (List.mem_of_getElem? (i := 46) rfl)), by decide +kernel⟩
set_option maxRecDepth 100000 in
theorem w_891 : (Jvm.Cond.methodLink "ScarArmy$Tape" (50 : Nat) ({ cls := "ScarArmy$Tape", name := "is", desc := "(Ljava/lang/String;)Z" } : Jvm.MethodName)) ∈ pT := List.mem_filter.mpr ⟨(tb_3 (List.mem_of_getElem? (i := 47) rfl)), by decide +kernel⟩
set_option maxRecDepth 100000 in
theorem w_893 : (Jvm.Cond.methodLink "ScarArmy$ArmyText" (114 : Nat) ({ cls := "ScarArmy$Battles", name := "add", desc := "(III)V" } : Jvm.MethodName)) ∈ pT := List.mem_filter.mpr ⟨(tb_3 (List.mem_of_getElem? (i := 49) rfl)), by decide +kernel⟩
set_option maxRecDepth 100000 in
theorem w_894 : (Jvm.Cond.instanceMethod ({ cls := "ScarArmy$Battles", name := "add", desc := "(III)V" } : Jvm.MethodName)) ∈ pT := List.mem_filter.mpr ⟨(tb_3 (List.mem_of_getElem? (i := 50) rfl)), by decide +kernel⟩
set_option maxRecDepth 100000 in
theorem w_895 : (Jvm.Cond.selects "ScarArmy$Battles" ({ cls := "ScarArmy$Battles", name := "add", desc := "(III)V" } : Jvm.MethodName) ({ cls := "ScarArmy$Battles", name := "add", desc := "(III)V" } : Jvm.MethodName)) ∈ pT := List.mem_filter.mpr ⟨(tb_3 (List.mem_of_getElem? (i := 51) rfl)), by decide +kernel⟩
set_option maxRecDepth 100000 in
theorem w_896 : (Jvm.Cond.code ({ cls := "ScarArmy$Battles", name := "add", desc := "(III)V" } : Jvm.MethodName) prog_4_method_3_code (4 : Nat) (Option.none : Option Jvm.ClassFile.FieldType)) ∈ pT := List.mem_filter.mpr ⟨(tb_3 (List.mem_of_getElem? (i := 52) rfl)), by decide +kernel⟩
set_option maxRecDepth 100000 in
theorem w_898 : (Jvm.Cond.methodLink "ScarArmy$ArmyText" (59 : Nat) ({ cls := "ScarArmy$ArmyText", name := "readMan", desc := "(LScarArmy$Men;)Z" } : Jvm.MethodName)) ∈ pT := List.mem_filter.mpr ⟨(tb_3 (List.mem_of_getElem? (i := 54) rfl)), by decide +kernel⟩
set_option maxRecDepth 100000 in
theorem w_900 : (Jvm.Cond.instanceMethod ({ cls := "ScarArmy$ArmyText", name := "readMan", desc := "(LScarArmy$Men;)Z" } : Jvm.MethodName)) ∈ pT := List.mem_filter.mpr ⟨(tb_3 (List.mem_of_getElem? (i := 56) rfl)), by decide +kernel⟩
set_option maxRecDepth 100000 in
theorem w_901 : (Jvm.Cond.code ({ cls := "ScarArmy$ArmyText", name := "readMan", desc := "(LScarArmy$Men;)Z" } : Jvm.MethodName) prog_3_method_5_code (2 : Nat) (Option.some Jvm.ClassFile.FieldType.boolean)) ∈ pT := List.mem_filter.mpr ⟨(tb_3 (List.mem_of_getElem? (i := 57) rfl)), by decide +kernel⟩
set_option maxRecDepth 100000 in
theorem w_902 : (Jvm.Cond.methodLink "ScarArmy$ArmyText" (118 : Nat) ({ cls := "ScarArmy$Men", name := "add", desc := "(I)V" } : Jvm.MethodName)) ∈ pT := List.mem_filter.mpr ⟨(tb_3 (List.mem_of_getElem? (i := 58) rfl)), by decide +kernel⟩
set_option maxRecDepth 100000 in
theorem w_903 : (Jvm.Cond.instanceMethod ({ cls := "ScarArmy$Men", name := "add", desc := "(I)V" } : Jvm.MethodName)) ∈ pT := List.mem_filter.mpr ⟨(tb_3 (List.mem_of_getElem? (i := 59) rfl)), by decide +kernel⟩
set_option maxRecDepth 100000 in
theorem w_904 : (Jvm.Cond.selects "ScarArmy$Men" ({ cls := "ScarArmy$Men", name := "add", desc := "(I)V" } : Jvm.MethodName) ({ cls := "ScarArmy$Men", name := "add", desc := "(I)V" } : Jvm.MethodName)) ∈ pT := List.mem_filter.mpr ⟨(tb_3 (List.mem_of_getElem? (i := 60) rfl)), by decide +kernel⟩
set_option maxRecDepth 100000 in
theorem w_905 : (Jvm.Cond.code ({ cls := "ScarArmy$Men", name := "add", desc := "(I)V" } : Jvm.MethodName) prog_9_method_3_code (2 : Nat) (Option.none : Option Jvm.ClassFile.FieldType)) ∈ pT := List.mem_filter.mpr ⟨(tb_3 (List.mem_of_getElem? (i := 61) rfl)), by decide +kernel⟩
set_option maxRecDepth 100000 in
theorem w_907 : (Jvm.Cond.methodLink "ScarArmy$ArmyText" (65 : Nat) ({ cls := "ScarArmy$ArmyText", name := "readScar", desc := "(LScarArmy$Army;)Z" } : Jvm.MethodName)) ∈ pT := List.mem_filter.mpr ⟨(tb_3 (List.mem_of_getElem? (i := 63) rfl)), by decide +kernel⟩
set_option maxRecDepth 100000 in
theorem w_909 : (Jvm.Cond.instanceMethod ({ cls := "ScarArmy$ArmyText", name := "readScar", desc := "(LScarArmy$Army;)Z" } : Jvm.MethodName)) ∈ pT := List.mem_filter.mpr ⟨(tb_3 (List.mem_of_getElem? (i := 65) rfl)), by decide +kernel⟩
set_option maxRecDepth 100000 in
theorem w_910 : (Jvm.Cond.code ({ cls := "ScarArmy$ArmyText", name := "readScar", desc := "(LScarArmy$Army;)Z" } : Jvm.MethodName) prog_3_method_6_code (7 : Nat) (Option.some Jvm.ClassFile.FieldType.boolean)) ∈ pT := List.mem_filter.mpr ⟨(tb_3 (List.mem_of_getElem? (i := 66) rfl)), by decide +kernel⟩
set_option maxRecDepth 100000 in
theorem w_915 : (Jvm.Cond.methodLink "ScarArmy$ArmyText" (131 : Nat) ({ cls := "ScarArmy$Scars", name := "add", desc := "(IIIII)I" } : Jvm.MethodName)) ∈ pT := List.mem_filter.mpr ⟨(tb_3 (List.mem_of_getElem? (i := 71) rfl)), by decide +kernel⟩
set_option maxRecDepth 100000 in
theorem w_916 : (Jvm.Cond.instanceMethod ({ cls := "ScarArmy$Scars", name := "add", desc := "(IIIII)I" } : Jvm.MethodName)) ∈ pT := List.mem_filter.mpr ⟨(tb_3 (List.mem_of_getElem? (i := 72) rfl)), by decide +kernel⟩
set_option maxRecDepth 100000 in
theorem w_917 : (Jvm.Cond.selects "ScarArmy$Scars" ({ cls := "ScarArmy$Scars", name := "add", desc := "(IIIII)I" } : Jvm.MethodName) ({ cls := "ScarArmy$Scars", name := "add", desc := "(IIIII)I" } : Jvm.MethodName)) ∈ pT := List.mem_filter.mpr ⟨(tb_3 (List.mem_of_getElem? (i := 73) rfl)), by decide +kernel⟩
set_option maxRecDepth 100000 in
theorem w_918 : (Jvm.Cond.code ({ cls := "ScarArmy$Scars", name := "add", desc := "(IIIII)I" } : Jvm.MethodName) prog_10_method_3_code (7 : Nat) (Option.some Jvm.ClassFile.FieldType.int)) ∈ pT := List.mem_filter.mpr ⟨(tb_3 (List.mem_of_getElem? (i := 74) rfl)), by decide +kernel⟩
set_option maxRecDepth 100000 in
theorem w_919 : (Jvm.Cond.methodLink "ScarArmy$Scars" (46 : Nat) ({ cls := "java/lang/Math", name := "min", desc := "(II)I" } : Jvm.MethodName)) ∈ pT := List.mem_filter.mpr ⟨(tb_3 (List.mem_of_getElem? (i := 75) rfl)), by decide +kernel⟩
set_option maxRecDepth 100000 in
theorem w_922 : (Jvm.Cond.methodLink "ScarArmy$ArmyText" (74 : Nat) ({ cls := "ScarArmy$ArmyText", name := "readTold", desc := "(LScarArmy$Scars;)Z" } : Jvm.MethodName)) ∈ pT := List.mem_filter.mpr ⟨(tb_3 (List.mem_of_getElem? (i := 78) rfl)), by decide +kernel⟩
set_option maxRecDepth 100000 in
theorem w_924 : (Jvm.Cond.instanceMethod ({ cls := "ScarArmy$ArmyText", name := "readTold", desc := "(LScarArmy$Scars;)Z" } : Jvm.MethodName)) ∈ pT := List.mem_filter.mpr ⟨(tb_3 (List.mem_of_getElem? (i := 80) rfl)), by decide +kernel⟩
set_option maxRecDepth 100000 in
theorem w_925 : (Jvm.Cond.code ({ cls := "ScarArmy$ArmyText", name := "readTold", desc := "(LScarArmy$Scars;)Z" } : Jvm.MethodName) prog_3_method_7_code (3 : Nat) (Option.some Jvm.ClassFile.FieldType.boolean)) ∈ pT := List.mem_filter.mpr ⟨(tb_3 (List.mem_of_getElem? (i := 81) rfl)), by decide +kernel⟩
set_option maxRecDepth 100000 in
theorem w_928 : (Jvm.Cond.methodLink "ScarArmy$ArmyText" (96 : Nat) ({ cls := "ScarArmy$Men", name := "bury", desc := "(I)V" } : Jvm.MethodName)) ∈ pT := List.mem_filter.mpr ⟨(tb_3 (List.mem_of_getElem? (i := 84) rfl)), by decide +kernel⟩
set_option maxRecDepth 100000 in
theorem w_929 : (Jvm.Cond.instanceMethod ({ cls := "ScarArmy$Men", name := "bury", desc := "(I)V" } : Jvm.MethodName)) ∈ pT := List.mem_filter.mpr ⟨(tb_3 (List.mem_of_getElem? (i := 85) rfl)), by decide +kernel⟩
set_option maxRecDepth 100000 in
theorem w_930 : (Jvm.Cond.selects "ScarArmy$Men" ({ cls := "ScarArmy$Men", name := "bury", desc := "(I)V" } : Jvm.MethodName) ({ cls := "ScarArmy$Men", name := "bury", desc := "(I)V" } : Jvm.MethodName)) ∈ pT := List.mem_filter.mpr ⟨(tb_3 (List.mem_of_getElem? (i := 86) rfl)), by decide +kernel⟩
set_option maxRecDepth 100000 in
theorem w_931 : (Jvm.Cond.code ({ cls := "ScarArmy$Men", name := "bury", desc := "(I)V" } : Jvm.MethodName) prog_9_method_6_code (2 : Nat) (Option.none : Option Jvm.ClassFile.FieldType)) ∈ pT := List.mem_filter.mpr ⟨(tb_3 (List.mem_of_getElem? (i := 87) rfl)), by decide +kernel⟩
set_option maxRecDepth 100000 in
theorem w_933 : (Jvm.Cond.classLink "ScarArmy" (82 : Nat) "java/lang/IllegalArgumentException") ∈ pT := List.mem_filter.mpr ⟨(tb_3 (List.mem_of_getElem? (i := 89) rfl)), by decide +kernel⟩
set_option maxRecDepth 100000 in
theorem w_1002 : (Jvm.Cond.classLink "ScarArmy" (92 : Nat) "java/lang/UnsupportedOperationException") ∈ pT := List.mem_filter.mpr ⟨(tb_3 (List.mem_of_getElem? (i := 158) rfl)), by decide +kernel⟩
set_option maxRecDepth 100000 in
theorem w_1024 : (Jvm.Cond.code ({ cls := "ScarArmy", name := "law", desc := "()I" } : Jvm.MethodName) prog_1_method_5_code (1 : Nat) (Option.some Jvm.ClassFile.FieldType.int)) ∈ pT := List.mem_filter.mpr ⟨(tb_3 (List.mem_of_getElem? (i := 180) rfl)), by decide +kernel⟩
set_option maxRecDepth 100000 in
theorem w_1025 : (Jvm.Cond.methodLink "ScarArmy" (100 : Nat) ({ cls := "ScarArmy$LawText", name := "read", desc := "()I" } : Jvm.MethodName)) ∈ pT := List.mem_filter.mpr ⟨(tb_3 (List.mem_of_getElem? (i := 181) rfl)), by decide +kernel⟩
set_option maxRecDepth 100000 in
theorem w_1026 : (Jvm.Cond.instanceMethod ({ cls := "ScarArmy$LawText", name := "read", desc := "()I" } : Jvm.MethodName)) ∈ pT := List.mem_filter.mpr ⟨(tb_3 (List.mem_of_getElem? (i := 182) rfl)), by decide +kernel⟩
set_option maxRecDepth 100000 in
theorem w_1027 : (Jvm.Cond.selects "ScarArmy$LawText" ({ cls := "ScarArmy$LawText", name := "read", desc := "()I" } : Jvm.MethodName) ({ cls := "ScarArmy$LawText", name := "read", desc := "()I" } : Jvm.MethodName)) ∈ pT := List.mem_filter.mpr ⟨(tb_3 (List.mem_of_getElem? (i := 183) rfl)), by decide +kernel⟩
set_option maxRecDepth 100000 in
theorem w_1028 : (Jvm.Cond.code ({ cls := "ScarArmy$LawText", name := "read", desc := "()I" } : Jvm.MethodName) prog_6_method_2_code (2 : Nat) (Option.some Jvm.ClassFile.FieldType.int)) ∈ pT := List.mem_filter.mpr ⟨(tb_3 (List.mem_of_getElem? (i := 184) rfl)), by decide +kernel⟩
set_option maxRecDepth 100000 in
theorem w_1029 : (Jvm.Cond.methodLink "ScarArmy$LawText" (28 : Nat) ({ cls := "ScarArmy$Tape", name := "open", desc := "()V" } : Jvm.MethodName)) ∈ pT := List.mem_filter.mpr ⟨(tb_3 (List.mem_of_getElem? (i := 185) rfl)), by decide +kernel⟩
set_option maxRecDepth 100000 in
theorem w_1030 : (Jvm.Cond.methodLink "ScarArmy$LawText" (33 : Nat) ({ cls := "ScarArmy$Tape", name := "atEnd", desc := "()Z" } : Jvm.MethodName)) ∈ pT := List.mem_filter.mpr ⟨(tb_3 (List.mem_of_getElem? (i := 186) rfl)), by decide +kernel⟩
set_option maxRecDepth 100000 in
theorem w_1031 : (Jvm.Cond.methodLink "ScarArmy$LawText" (37 : Nat) ({ cls := "ScarArmy$LawText", name := "readLine", desc := "()Z" } : Jvm.MethodName)) ∈ pT := List.mem_filter.mpr ⟨(tb_3 (List.mem_of_getElem? (i := 187) rfl)), by decide +kernel⟩
set_option maxRecDepth 100000 in
theorem w_1033 : (Jvm.Cond.instanceMethod ({ cls := "ScarArmy$LawText", name := "readLine", desc := "()Z" } : Jvm.MethodName)) ∈ pT := List.mem_filter.mpr ⟨(tb_3 (List.mem_of_getElem? (i := 189) rfl)), by decide +kernel⟩
set_option maxRecDepth 100000 in
theorem w_1034 : (Jvm.Cond.code ({ cls := "ScarArmy$LawText", name := "readLine", desc := "()Z" } : Jvm.MethodName) prog_6_method_4_code (4 : Nat) (Option.some Jvm.ClassFile.FieldType.boolean)) ∈ pT := List.mem_filter.mpr ⟨(tb_3 (List.mem_of_getElem? (i := 190) rfl)), by decide +kernel⟩
set_option maxRecDepth 100000 in
theorem w_1036 : (Jvm.Cond.methodLink "ScarArmy$LawText" (60 : Nat) ({ cls := "ScarArmy$Tape", name := "is", desc := "(Ljava/lang/String;)Z" } : Jvm.MethodName)) ∈ pT := List.mem_filter.mpr ⟨(tb_3 (List.mem_of_getElem? (i := 192) rfl)), by decide +kernel⟩
set_option maxRecDepth 100000 in
theorem w_1039 : (Jvm.Cond.methodLink "ScarArmy$LawText" (67 : Nat) ({ cls := "ScarArmy$Tape", name := "advance", desc := "()V" } : Jvm.MethodName)) ∈ pT := List.mem_filter.mpr ⟨(tb_3 (List.mem_of_getElem? (i := 195) rfl)), by decide +kernel⟩
set_option maxRecDepth 100000 in
theorem w_1040 : (Jvm.Cond.methodLink "ScarArmy$LawText" (70 : Nat) ({ cls := "ScarArmy$Tape", name := "takeNumber", desc := "(III)Z" } : Jvm.MethodName)) ∈ pT := List.mem_filter.mpr ⟨(tb_3 (List.mem_of_getElem? (i := 196) rfl)), by decide +kernel⟩
set_option maxRecDepth 100000 in
theorem w_1041 : (Jvm.Cond.methodLink "ScarArmy$LawText" (77 : Nat) ({ cls := "ScarArmy$LawText", name := "emit", desc := "(I)V" } : Jvm.MethodName)) ∈ pT := List.mem_filter.mpr ⟨(tb_3 (List.mem_of_getElem? (i := 197) rfl)), by decide +kernel⟩
set_option maxRecDepth 100000 in
theorem w_1043 : (Jvm.Cond.instanceMethod ({ cls := "ScarArmy$LawText", name := "emit", desc := "(I)V" } : Jvm.MethodName)) ∈ pT := List.mem_filter.mpr ⟨(tb_3 (List.mem_of_getElem? (i := 199) rfl)), by decide +kernel⟩
set_option maxRecDepth 100000 in
theorem w_1044 : (Jvm.Cond.code ({ cls := "ScarArmy$LawText", name := "emit", desc := "(I)V" } : Jvm.MethodName) prog_6_method_11_code (2 : Nat) (Option.none : Option Jvm.ClassFile.FieldType)) ∈ pT := List.mem_filter.mpr ⟨(tb_3 (List.mem_of_getElem? (i := 200) rfl)), by decide +kernel⟩
set_option maxRecDepth 100000 in
theorem w_1046 : (Jvm.Cond.methodLink "ScarArmy$LawText" (45 : Nat) ({ cls := "ScarArmy$Tape", name := "take", desc := "(Ljava/lang/String;)Z" } : Jvm.MethodName)) ∈ pT := List.mem_filter.mpr ⟨(tb_3 (List.mem_of_getElem? (i := 202) rfl)), by decide +kernel⟩
set_option maxRecDepth 100000 in
theorem w_1047 : (Jvm.Cond.methodLink "ScarArmy$LawText" (83 : Nat) ({ cls := "ScarArmy$LawText", name := "readCondition", desc := "(I)Z" } : Jvm.MethodName)) ∈ pT := List.mem_filter.mpr ⟨(tb_3 (List.mem_of_getElem? (i := 203) rfl)), by decide +kernel⟩
set_option maxRecDepth 100000 in
theorem w_1049 : (Jvm.Cond.instanceMethod ({ cls := "ScarArmy$LawText", name := "readCondition", desc := "(I)Z" } : Jvm.MethodName)) ∈ pT := List.mem_filter.mpr ⟨(tb_3 (List.mem_of_getElem? (i := 205) rfl)), by decide +kernel⟩
set_option maxRecDepth 100000 in
theorem w_1050 : (Jvm.Cond.code ({ cls := "ScarArmy$LawText", name := "readCondition", desc := "(I)Z" } : Jvm.MethodName) prog_6_method_5_code (5 : Nat) (Option.some Jvm.ClassFile.FieldType.boolean)) ∈ pT := List.mem_filter.mpr ⟨(tb_3 (List.mem_of_getElem? (i := 206) rfl)), by decide +kernel⟩
set_option maxRecDepth 100000 in
theorem w_1051 : (Jvm.Cond.methodLink "ScarArmy$LawText" (87 : Nat) ({ cls := "ScarArmy$LawText", name := "readAtom", desc := "(I)Z" } : Jvm.MethodName)) ∈ pT := List.mem_filter.mpr ⟨(tb_3 (List.mem_of_getElem? (i := 207) rfl)), by decide +kernel⟩
set_option maxRecDepth 100000 in
theorem w_1053 : (Jvm.Cond.instanceMethod ({ cls := "ScarArmy$LawText", name := "readAtom", desc := "(I)Z" } : Jvm.MethodName)) ∈ pT := List.mem_filter.mpr ⟨(tb_3 (List.mem_of_getElem? (i := 209) rfl)), by decide +kernel⟩
set_option maxRecDepth 100000 in
theorem w_1054 : (Jvm.Cond.code ({ cls := "ScarArmy$LawText", name := "readAtom", desc := "(I)Z" } : Jvm.MethodName) prog_6_method_6_code (5 : Nat) (Option.some Jvm.ClassFile.FieldType.boolean)) ∈ pT := List.mem_filter.mpr ⟨(tb_3 (List.mem_of_getElem? (i := 210) rfl)), by decide +kernel⟩
set_option maxRecDepth 100000 in
theorem w_1057 : (Jvm.Cond.methodLink "ScarArmy$LawText" (98 : Nat) ({ cls := "ScarArmy$LawText", name := "readNegated", desc := "(I)Z" } : Jvm.MethodName)) ∈ pT := List.mem_filter.mpr ⟨(tb_3 (List.mem_of_getElem? (i := 213) rfl)), by decide +kernel⟩
set_option maxRecDepth 100000 in
theorem w_1059 : (Jvm.Cond.instanceMethod ({ cls := "ScarArmy$LawText", name := "readNegated", desc := "(I)Z" } : Jvm.MethodName)) ∈ pT := List.mem_filter.mpr ⟨(tb_3 (List.mem_of_getElem? (i := 215) rfl)), by decide +kernel⟩
set_option maxRecDepth 100000 in
theorem w_1060 : (Jvm.Cond.code ({ cls := "ScarArmy$LawText", name := "readNegated", desc := "(I)Z" } : Jvm.MethodName) prog_6_method_7_code (2 : Nat) (Option.some Jvm.ClassFile.FieldType.boolean)) ∈ pT := List.mem_filter.mpr ⟨(tb_3 (List.mem_of_getElem? (i := 216) rfl)), by decide +kernel⟩
set_option maxRecDepth 100000 in
theorem w_1062 : (Jvm.Cond.methodLink "ScarArmy$LawText" (103 : Nat) ({ cls := "ScarArmy$LawText", name := "namedTruth", desc := "()I" } : Jvm.MethodName)) ∈ pT := List.mem_filter.mpr ⟨(tb_3 (List.mem_of_getElem? (i := 218) rfl)), by decide +kernel⟩
set_option maxRecDepth 100000 in
theorem w_1064 : (Jvm.Cond.instanceMethod ({ cls := "ScarArmy$LawText", name := "namedTruth", desc := "()I" } : Jvm.MethodName)) ∈ pT := List.mem_filter.mpr ⟨(tb_3 (List.mem_of_getElem? (i := 220) rfl)), by decide +kernel⟩
set_option maxRecDepth 100000 in
theorem w_1065 : (Jvm.Cond.code ({ cls := "ScarArmy$LawText", name := "namedTruth", desc := "()I" } : Jvm.MethodName) prog_6_method_9_code (1 : Nat) (Option.some Jvm.ClassFile.FieldType.int)) ∈ pT := List.mem_filter.mpr ⟨(tb_3 (List.mem_of_getElem? (i := 221) rfl)), by decide +kernel⟩
set_option maxRecDepth 100000 in
theorem w_1069 : (Jvm.Cond.methodLink "ScarArmy$LawText" (107 : Nat) ({ cls := "ScarArmy$LawText", name := "readSum", desc := "()Z" } : Jvm.MethodName)) ∈ pT := List.mem_filter.mpr ⟨(tb_3 (List.mem_of_getElem? (i := 225) rfl)), by decide +kernel⟩
set_option maxRecDepth 100000 in
theorem w_1071 : (Jvm.Cond.instanceMethod ({ cls := "ScarArmy$LawText", name := "readSum", desc := "()Z" } : Jvm.MethodName)) ∈ pT := List.mem_filter.mpr ⟨(tb_3 (List.mem_of_getElem? (i := 227) rfl)), by decide +kernel⟩
set_option maxRecDepth 100000 in
theorem w_1072 : (Jvm.Cond.code ({ cls := "ScarArmy$LawText", name := "readSum", desc := "()Z" } : Jvm.MethodName) prog_6_method_8_code (3 : Nat) (Option.some Jvm.ClassFile.FieldType.boolean)) ∈ pT := List.mem_filter.mpr ⟨(tb_3 (List.mem_of_getElem? (i := 228) rfl)), by decide +kernel⟩
set_option maxRecDepth 100000 in
theorem w_1073 : (Jvm.Cond.methodLink "ScarArmy$LawText" (114 : Nat) ({ cls := "ScarArmy$LawText", name := "namedPart", desc := "()I" } : Jvm.MethodName)) ∈ pT := List.mem_filter.mpr ⟨(tb_3 (List.mem_of_getElem? (i := 229) rfl)), by decide +kernel⟩
set_option maxRecDepth 100000 in
theorem w_1075 : (Jvm.Cond.instanceMethod ({ cls := "ScarArmy$LawText", name := "namedPart", desc := "()I" } : Jvm.MethodName)) ∈ pT := List.mem_filter.mpr ⟨(tb_3 (List.mem_of_getElem? (i := 231) rfl)), by decide +kernel⟩
set_option maxRecDepth 100000 in
theorem w_1076 : (Jvm.Cond.code ({ cls := "ScarArmy$LawText", name := "namedPart", desc := "()I" } : Jvm.MethodName) prog_6_method_10_code (1 : Nat) (Option.some Jvm.ClassFile.FieldType.int)) ∈ pT := List.mem_filter.mpr ⟨(tb_3 (List.mem_of_getElem? (i := 232) rfl)), by decide +kernel⟩
set_option maxRecDepth 100000 in
theorem w_1090 : (Jvm.Cond.methodLink "ScarArmy" (103 : Nat) ({ cls := "ScarArmy$LawText", name := "compiled", desc := "()LScarArmy$Law;" } : Jvm.MethodName)) ∈ pT := List.mem_filter.mpr ⟨(tb_4 (List.mem_of_getElem? (i := 6) rfl)), by decide +kernel⟩
set_option maxRecDepth 100000 in
theorem w_1091 : (Jvm.Cond.instanceMethod ({ cls := "ScarArmy$LawText", name := "compiled", desc := "()LScarArmy$Law;" } : Jvm.MethodName)) ∈ pT := List.mem_filter.mpr ⟨(tb_4 (List.mem_of_getElem? (i := 7) rfl)), by decide +kernel⟩
set_option maxRecDepth 100000 in
theorem w_1092 : (Jvm.Cond.selects "ScarArmy$LawText" ({ cls := "ScarArmy$LawText", name := "compiled", desc := "()LScarArmy$Law;" } : Jvm.MethodName) ({ cls := "ScarArmy$LawText", name := "compiled", desc := "()LScarArmy$Law;" } : Jvm.MethodName)) ∈ pT := List.mem_filter.mpr ⟨(tb_4 (List.mem_of_getElem? (i := 8) rfl)), by decide +kernel⟩
set_option maxRecDepth 100000 in
theorem w_1093 : (Jvm.Cond.code ({ cls := "ScarArmy$LawText", name := "compiled", desc := "()LScarArmy$Law;" } : Jvm.MethodName) prog_6_method_3_code (1 : Nat) (Option.some (Jvm.ClassFile.FieldType.object "ScarArmy$Law"))) ∈ pT := List.mem_filter.mpr ⟨(tb_4 (List.mem_of_getElem? (i := 9) rfl)), by decide +kernel⟩
set_option maxRecDepth 100000 in
theorem w_1094 : (Jvm.Cond.classLink "ScarArmy$LawText" (9 : Nat) "ScarArmy$Law") ∈ pT := List.mem_filter.mpr ⟨(tb_4 (List.mem_of_getElem? (i := 10) rfl)), by decide +kernel⟩
set_option maxRecDepth 100000 in
theorem w_1095 : (Jvm.Cond.methodLink "ScarArmy$LawText" (49 : Nat) ({ cls := "java/util/Arrays", name := "copyOf", desc := "([II)[I" } : Jvm.MethodName)) ∈ pT := List.mem_filter.mpr ⟨(tb_4 (List.mem_of_getElem? (i := 11) rfl)), by decide +kernel⟩
set_option maxRecDepth 100000 in
theorem w_1096 : (Jvm.Cond.static ({ cls := "java/util/Arrays", name := "copyOf", desc := "([II)[I" } : Jvm.MethodName)) ∈ pT := List.mem_filter.mpr ⟨(tb_4 (List.mem_of_getElem? (i := 12) rfl)), by decide +kernel⟩
set_option maxRecDepth 100000 in
theorem w_1097 : (Jvm.Cond.code ({ cls := "java/util/Arrays", name := "copyOf", desc := "([II)[I" } : Jvm.MethodName) prog_34_method_123_code (3 : Nat) (Option.some (Jvm.ClassFile.FieldType.array Jvm.ClassFile.FieldType.int))) ∈ pT := List.mem_filter.mpr ⟨(tb_4 (List.mem_of_getElem? (i := 13) rfl)), by decide +kernel⟩
set_option maxRecDepth 100000 in
theorem w_1105 : (Jvm.Cond.methodLink "java/util/Arrays" (304 : Nat) ({ cls := "java/lang/Math", name := "min", desc := "(II)I" } : Jvm.MethodName)) ∈ pT := List.mem_filter.mpr ⟨(tb_4 (List.mem_of_getElem? (i := 21) rfl)), by decide +kernel⟩
set_option maxRecDepth 100000 in
theorem w_1106 : (Jvm.Cond.methodLink "java/util/Arrays" (150 : Nat) ({ cls := "java/lang/System", name := "arraycopy", desc := "(Ljava/lang/Object;ILjava/lang/Object;II)V" } : Jvm.MethodName)) ∈ pT := List.mem_filter.mpr ⟨(tb_4 (List.mem_of_getElem? (i := 22) rfl)), by decide +kernel⟩
set_option maxRecDepth 100000 in
theorem w_1107 : (Jvm.Cond.methodLink "ScarArmy$LawText" (55 : Nat) ({ cls := "ScarArmy$Law", name := "<init>", desc := "([II)V" } : Jvm.MethodName)) ∈ pT := List.mem_filter.mpr ⟨(tb_4 (List.mem_of_getElem? (i := 23) rfl)), by decide +kernel⟩
set_option maxRecDepth 100000 in
theorem w_1108 : (Jvm.Cond.instanceMethod ({ cls := "ScarArmy$Law", name := "<init>", desc := "([II)V" } : Jvm.MethodName)) ∈ pT := List.mem_filter.mpr ⟨(tb_4 (List.mem_of_getElem? (i := 24) rfl)), by decide +kernel⟩
set_option maxRecDepth 100000 in
theorem w_1109 : (Jvm.Cond.code ({ cls := "ScarArmy$Law", name := "<init>", desc := "([II)V" } : Jvm.MethodName) prog_5_method_1_code (3 : Nat) (Option.none : Option Jvm.ClassFile.FieldType)) ∈ pT := List.mem_filter.mpr ⟨(tb_4 (List.mem_of_getElem? (i := 25) rfl)), by decide +kernel⟩
set_option maxRecDepth 100000 in
theorem w_1110 : (Jvm.Cond.methodLink "ScarArmy$Law" (3 : Nat) ({ cls := "java/lang/Object", name := "<init>", desc := "()V" } : Jvm.MethodName)) ∈ pT := List.mem_filter.mpr ⟨(tb_4 (List.mem_of_getElem? (i := 26) rfl)), by decide +kernel⟩
set_option maxRecDepth 100000 in
theorem w_1111 : (Jvm.Cond.fieldLink "ScarArmy$Law" (18 : Nat) "ScarArmy$Law" "lines" "I") ∈ pT := List.mem_filter.mpr ⟨(tb_4 (List.mem_of_getElem? (i := 27) rfl)), by decide +kernel⟩
set_option maxRecDepth 100000 in
theorem w_1112 : (Jvm.Cond.fieldLink "ScarArmy" (111 : Nat) "ScarArmy$Law" "lines" "I") ∈ pT := List.mem_filter.mpr ⟨(tb_4 (List.mem_of_getElem? (i := 28) rfl)), by decide +kernel⟩
set_option maxRecDepth 100000 in
theorem w_1113 : (Jvm.Cond.fieldLink "ScarArmy$Law" (15 : Nat) "ScarArmy$Law" "code" "[I") ∈ pT := List.mem_filter.mpr ⟨(tb_4 (List.mem_of_getElem? (i := 29) rfl)), by decide +kernel⟩
set_option maxRecDepth 100000 in
theorem w_1114 : (Jvm.Cond.fieldLink "ScarArmy$Law" (11 : Nat) "ScarArmy$Law" "stack" "[I") ∈ pT := List.mem_filter.mpr ⟨(tb_4 (List.mem_of_getElem? (i := 30) rfl)), by decide +kernel⟩
set_option maxRecDepth 100000 in
theorem w_1130 : (Jvm.Cond.code ({ cls := "ScarArmy", name := "battle", desc := "(II)I" } : Jvm.MethodName) prog_1_method_7_code (3 : Nat) (Option.some Jvm.ClassFile.FieldType.int)) ∈ pT := List.mem_filter.mpr ⟨(tb_4 (List.mem_of_getElem? (i := 46) rfl)), by decide +kernel⟩
set_option maxRecDepth 100000 in
theorem w_1131 : (Jvm.Cond.methodLink "ScarArmy" (116 : Nat) ({ cls := "ScarArmy", name := "needBattle", desc := "(I)V" } : Jvm.MethodName)) ∈ pT := List.mem_filter.mpr ⟨(tb_4 (List.mem_of_getElem? (i := 47) rfl)), by decide +kernel⟩
set_option maxRecDepth 100000 in
theorem w_1133 : (Jvm.Cond.instanceMethod ({ cls := "ScarArmy", name := "needBattle", desc := "(I)V" } : Jvm.MethodName)) ∈ pT := List.mem_filter.mpr ⟨(tb_4 (List.mem_of_getElem? (i := 49) rfl)), by decide +kernel⟩
set_option maxRecDepth 100000 in
theorem w_1134 : (Jvm.Cond.code ({ cls := "ScarArmy", name := "needBattle", desc := "(I)V" } : Jvm.MethodName) prog_1_method_49_code (2 : Nat) (Option.none : Option Jvm.ClassFile.FieldType)) ∈ pT := List.mem_filter.mpr ⟨(tb_4 (List.mem_of_getElem? (i := 50) rfl)), by decide +kernel⟩
set_option maxRecDepth 100000 in
theorem w_1135 : (Jvm.Cond.classLink "ScarArmy" (271 : Nat) "java/lang/IndexOutOfBoundsException") ∈ pT := List.mem_filter.mpr ⟨(tb_4 (List.mem_of_getElem? (i := 51) rfl)), by decide +kernel⟩
set_option maxRecDepth 100000 in
theorem w_1151 : (Jvm.Cond.methodLink "ScarArmy" (139 : Nat) ({ cls := "ScarArmy$Scars", name := "menCut", desc := "(I)I" } : Jvm.MethodName)) ∈ pT := List.mem_filter.mpr ⟨(tb_4 (List.mem_of_getElem? (i := 67) rfl)), by decide +kernel⟩
set_option maxRecDepth 100000 in
theorem w_1152 : (Jvm.Cond.instanceMethod ({ cls := "ScarArmy$Scars", name := "menCut", desc := "(I)I" } : Jvm.MethodName)) ∈ pT := List.mem_filter.mpr ⟨(tb_4 (List.mem_of_getElem? (i := 68) rfl)), by decide +kernel⟩
set_option maxRecDepth 100000 in
theorem w_1153 : (Jvm.Cond.selects "ScarArmy$Scars" ({ cls := "ScarArmy$Scars", name := "menCut", desc := "(I)I" } : Jvm.MethodName) ({ cls := "ScarArmy$Scars", name := "menCut", desc := "(I)I" } : Jvm.MethodName)) ∈ pT := List.mem_filter.mpr ⟨(tb_4 (List.mem_of_getElem? (i := 69) rfl)), by decide +kernel⟩
set_option maxRecDepth 100000 in
theorem w_1154 : (Jvm.Cond.code ({ cls := "ScarArmy$Scars", name := "menCut", desc := "(I)I" } : Jvm.MethodName) prog_10_method_12_code (2 : Nat) (Option.some Jvm.ClassFile.FieldType.int)) ∈ pT := List.mem_filter.mpr ⟨(tb_4 (List.mem_of_getElem? (i := 70) rfl)), by decide +kernel⟩
set_option maxRecDepth 100000 in
theorem w_1155 : (Jvm.Cond.methodLink "ScarArmy" (145 : Nat) ({ cls := "ScarArmy$Scars", name := "menBearing", desc := "(I)I" } : Jvm.MethodName)) ∈ pT := List.mem_filter.mpr ⟨(tb_4 (List.mem_of_getElem? (i := 71) rfl)), by decide +kernel⟩
set_option maxRecDepth 100000 in
theorem w_1156 : (Jvm.Cond.instanceMethod ({ cls := "ScarArmy$Scars", name := "menBearing", desc := "(I)I" } : Jvm.MethodName)) ∈ pT := List.mem_filter.mpr ⟨(tb_4 (List.mem_of_getElem? (i := 72) rfl)), by decide +kernel⟩
set_option maxRecDepth 100000 in
theorem w_1157 : (Jvm.Cond.selects "ScarArmy$Scars" ({ cls := "ScarArmy$Scars", name := "menBearing", desc := "(I)I" } : Jvm.MethodName) ({ cls := "ScarArmy$Scars", name := "menBearing", desc := "(I)I" } : Jvm.MethodName)) ∈ pT := List.mem_filter.mpr ⟨(tb_4 (List.mem_of_getElem? (i := 73) rfl)), by decide +kernel⟩
set_option maxRecDepth 100000 in
theorem w_1158 : (Jvm.Cond.code ({ cls := "ScarArmy$Scars", name := "menBearing", desc := "(I)I" } : Jvm.MethodName) prog_10_method_13_code (2 : Nat) (Option.some Jvm.ClassFile.FieldType.int)) ∈ pT := List.mem_filter.mpr ⟨(tb_4 (List.mem_of_getElem? (i := 74) rfl)), by decide +kernel⟩
set_option maxRecDepth 100000 in
theorem w_1159 : (Jvm.Cond.methodLink "ScarArmy" (148 : Nat) ({ cls := "ScarArmy$Army", name := "wereThere", desc := "(I)I" } : Jvm.MethodName)) ∈ pT := List.mem_filter.mpr ⟨(tb_4 (List.mem_of_getElem? (i := 75) rfl)), by decide +kernel⟩
set_option maxRecDepth 100000 in
theorem w_1160 : (Jvm.Cond.instanceMethod ({ cls := "ScarArmy$Army", name := "wereThere", desc := "(I)I" } : Jvm.MethodName)) ∈ pT := List.mem_filter.mpr ⟨(tb_4 (List.mem_of_getElem? (i := 76) rfl)), by decide +kernel⟩
set_option maxRecDepth 100000 in
theorem w_1161 : (Jvm.Cond.selects "ScarArmy$Army" ({ cls := "ScarArmy$Army", name := "wereThere", desc := "(I)I" } : Jvm.MethodName) ({ cls := "ScarArmy$Army", name := "wereThere", desc := "(I)I" } : Jvm.MethodName)) ∈ pT := List.mem_filter.mpr ⟨(tb_4 (List.mem_of_getElem? (i := 77) rfl)), by decide +kernel⟩
set_option maxRecDepth 100000 in
theorem w_1162 : (Jvm.Cond.code ({ cls := "ScarArmy$Army", name := "wereThere", desc := "(I)I" } : Jvm.MethodName) prog_2_method_20_code (6 : Nat) (Option.some Jvm.ClassFile.FieldType.int)) ∈ pT := List.mem_filter.mpr ⟨(tb_4 (List.mem_of_getElem? (i := 78) rfl)), by decide +kernel⟩
set_option maxRecDepth 100000 in
theorem w_1163 : (Jvm.Cond.methodLink "ScarArmy" (151 : Nat) ({ cls := "ScarArmy$Scars", name := "skinsFor", desc := "(I)I" } : Jvm.MethodName)) ∈ pT := List.mem_filter.mpr ⟨(tb_4 (List.mem_of_getElem? (i := 79) rfl)), by decide +kernel⟩
set_option maxRecDepth 100000 in
theorem w_1164 : (Jvm.Cond.instanceMethod ({ cls := "ScarArmy$Scars", name := "skinsFor", desc := "(I)I" } : Jvm.MethodName)) ∈ pT := List.mem_filter.mpr ⟨(tb_4 (List.mem_of_getElem? (i := 80) rfl)), by decide +kernel⟩
set_option maxRecDepth 100000 in
theorem w_1165 : (Jvm.Cond.selects "ScarArmy$Scars" ({ cls := "ScarArmy$Scars", name := "skinsFor", desc := "(I)I" } : Jvm.MethodName) ({ cls := "ScarArmy$Scars", name := "skinsFor", desc := "(I)I" } : Jvm.MethodName)) ∈ pT := List.mem_filter.mpr ⟨(tb_4 (List.mem_of_getElem? (i := 81) rfl)), by decide +kernel⟩
set_option maxRecDepth 100000 in
theorem w_1166 : (Jvm.Cond.code ({ cls := "ScarArmy$Scars", name := "skinsFor", desc := "(I)I" } : Jvm.MethodName) prog_10_method_15_code (6 : Nat) (Option.some Jvm.ClassFile.FieldType.int)) ∈ pT := List.mem_filter.mpr ⟨(tb_4 (List.mem_of_getElem? (i := 82) rfl)), by decide +kernel⟩
set_option maxRecDepth 100000 in
theorem w_1167 : (Jvm.Cond.methodLink "ScarArmy$Scars" (56 : Nat) ({ cls := "java/lang/Math", name := "max", desc := "(II)I" } : Jvm.MethodName)) ∈ pT := List.mem_filter.mpr ⟨(tb_4 (List.mem_of_getElem? (i := 83) rfl)), by decide +kernel⟩
set_option maxRecDepth 100000 in
theorem w_1168 : (Jvm.Cond.classLink "ScarArmy" (154 : Nat) "java/util/NoSuchElementException") ∈ pT := List.mem_filter.mpr ⟨(tb_4 (List.mem_of_getElem? (i := 84) rfl)), by decide +kernel⟩
set_option maxRecDepth 100000 in
theorem w_1190 : (Jvm.Cond.code ({ cls := "ScarArmy", name := "man", desc := "(II)I" } : Jvm.MethodName) prog_1_method_8_code (3 : Nat) (Option.some Jvm.ClassFile.FieldType.int)) ∈ pT := List.mem_filter.mpr ⟨(tb_4 (List.mem_of_getElem? (i := 106) rfl)), by decide +kernel⟩
set_option maxRecDepth 100000 in
theorem w_1191 : (Jvm.Cond.methodLink "ScarArmy" (159 : Nat) ({ cls := "ScarArmy", name := "needMan", desc := "(I)V" } : Jvm.MethodName)) ∈ pT := List.mem_filter.mpr ⟨(tb_4 (List.mem_of_getElem? (i := 107) rfl)), by decide +kernel⟩
set_option maxRecDepth 100000 in
theorem w_1193 : (Jvm.Cond.instanceMethod ({ cls := "ScarArmy", name := "needMan", desc := "(I)V" } : Jvm.MethodName)) ∈ pT := List.mem_filter.mpr ⟨(tb_4 (List.mem_of_getElem? (i := 109) rfl)), by decide +kernel⟩
set_option maxRecDepth 100000 in
theorem w_1194 : (Jvm.Cond.code ({ cls := "ScarArmy", name := "needMan", desc := "(I)V" } : Jvm.MethodName) prog_1_method_50_code (2 : Nat) (Option.none : Option Jvm.ClassFile.FieldType)) ∈ pT := List.mem_filter.mpr ⟨(tb_4 (List.mem_of_getElem? (i := 110) rfl)), by decide +kernel⟩
set_option maxRecDepth 100000 in
theorem w_1196 : (Jvm.Cond.methodLink "ScarArmy" (166 : Nat) ({ cls := "ScarArmy$Men", name := "isAlive", desc := "(I)Z" } : Jvm.MethodName)) ∈ pT := List.mem_filter.mpr ⟨(tb_4 (List.mem_of_getElem? (i := 112) rfl)), by decide +kernel⟩
set_option maxRecDepth 100000 in
theorem w_1197 : (Jvm.Cond.methodLink "ScarArmy" (178 : Nat) ({ cls := "ScarArmy$Scars", name := "borneBy", desc := "(I)I" } : Jvm.MethodName)) ∈ pT := List.mem_filter.mpr ⟨(tb_4 (List.mem_of_getElem? (i := 113) rfl)), by decide +kernel⟩
set_option maxRecDepth 100000 in
theorem w_1198 : (Jvm.Cond.instanceMethod ({ cls := "ScarArmy$Scars", name := "borneBy", desc := "(I)I" } : Jvm.MethodName)) ∈ pT := List.mem_filter.mpr ⟨(tb_4 (List.mem_of_getElem? (i := 114) rfl)), by decide +kernel⟩
set_option maxRecDepth 100000 in
theorem w_1199 : (Jvm.Cond.selects "ScarArmy$Scars" ({ cls := "ScarArmy$Scars", name := "borneBy", desc := "(I)I" } : Jvm.MethodName) ({ cls := "ScarArmy$Scars", name := "borneBy", desc := "(I)I" } : Jvm.MethodName)) ∈ pT := List.mem_filter.mpr ⟨(tb_4 (List.mem_of_getElem? (i := 115) rfl)), by decide +kernel⟩
set_option maxRecDepth 100000 in
theorem w_1200 : (Jvm.Cond.code ({ cls := "ScarArmy$Scars", name := "borneBy", desc := "(I)I" } : Jvm.MethodName) prog_10_method_7_code (4 : Nat) (Option.some Jvm.ClassFile.FieldType.int)) ∈ pT := List.mem_filter.mpr ⟨(tb_4 (List.mem_of_getElem? (i := 116) rfl)), by decide +kernel⟩
set_option maxRecDepth 100000 in
theorem w_1201 : (Jvm.Cond.methodLink "ScarArmy" (181 : Nat) ({ cls := "ScarArmy$Army", name := "looksOf", desc := "(I)I" } : Jvm.MethodName)) ∈ pT := List.mem_filter.mpr ⟨(tb_4 (List.mem_of_getElem? (i := 117) rfl)), by decide +kernel⟩
set_option maxRecDepth 100000 in
theorem w_1202 : (Jvm.Cond.instanceMethod ({ cls := "ScarArmy$Army", name := "looksOf", desc := "(I)I" } : Jvm.MethodName)) ∈ pT := List.mem_filter.mpr ⟨(tb_4 (List.mem_of_getElem? (i := 118) rfl)), by decide +kernel⟩
set_option maxRecDepth 100000 in
theorem w_1203 : (Jvm.Cond.selects "ScarArmy$Army" ({ cls := "ScarArmy$Army", name := "looksOf", desc := "(I)I" } : Jvm.MethodName) ({ cls := "ScarArmy$Army", name := "looksOf", desc := "(I)I" } : Jvm.MethodName)) ∈ pT := List.mem_filter.mpr ⟨(tb_4 (List.mem_of_getElem? (i := 119) rfl)), by decide +kernel⟩
set_option maxRecDepth 100000 in
theorem w_1204 : (Jvm.Cond.code ({ cls := "ScarArmy$Army", name := "looksOf", desc := "(I)I" } : Jvm.MethodName) prog_2_method_8_code (3 : Nat) (Option.some Jvm.ClassFile.FieldType.int)) ∈ pT := List.mem_filter.mpr ⟨(tb_4 (List.mem_of_getElem? (i := 120) rfl)), by decide +kernel⟩
set_option maxRecDepth 100000 in
theorem w_1205 : (Jvm.Cond.methodLink "ScarArmy$Army" (125 : Nat) ({ cls := "ScarArmy$Army", name := "worthBorneBy", desc := "(I)I" } : Jvm.MethodName)) ∈ pT := List.mem_filter.mpr ⟨(tb_4 (List.mem_of_getElem? (i := 121) rfl)), by decide +kernel⟩
set_option maxRecDepth 100000 in
theorem w_1206 : (Jvm.Cond.instanceMethod ({ cls := "ScarArmy$Army", name := "worthBorneBy", desc := "(I)I" } : Jvm.MethodName)) ∈ pT := List.mem_filter.mpr ⟨(tb_4 (List.mem_of_getElem? (i := 122) rfl)), by decide +kernel⟩
set_option maxRecDepth 100000 in
theorem w_1207 : (Jvm.Cond.selects "ScarArmy$Army" ({ cls := "ScarArmy$Army", name := "worthBorneBy", desc := "(I)I" } : Jvm.MethodName) ({ cls := "ScarArmy$Army", name := "worthBorneBy", desc := "(I)I" } : Jvm.MethodName)) ∈ pT := List.mem_filter.mpr ⟨(tb_4 (List.mem_of_getElem? (i := 123) rfl)), by decide +kernel⟩
set_option maxRecDepth 100000 in
theorem w_1208 : (Jvm.Cond.code ({ cls := "ScarArmy$Army", name := "worthBorneBy", desc := "(I)I" } : Jvm.MethodName) prog_2_method_7_code (4 : Nat) (Option.some Jvm.ClassFile.FieldType.int)) ∈ pT := List.mem_filter.mpr ⟨(tb_4 (List.mem_of_getElem? (i := 124) rfl)), by decide +kernel⟩
set_option maxRecDepth 100000 in
theorem w_1209 : (Jvm.Cond.methodLink "ScarArmy" (184 : Nat) ({ cls := "ScarArmy$Army", name := "pensionOf", desc := "(I)I" } : Jvm.MethodName)) ∈ pT := List.mem_filter.mpr ⟨(tb_4 (List.mem_of_getElem? (i := 125) rfl)), by decide +kernel⟩
set_option maxRecDepth 100000 in
theorem w_1210 : (Jvm.Cond.instanceMethod ({ cls := "ScarArmy$Army", name := "pensionOf", desc := "(I)I" } : Jvm.MethodName)) ∈ pT := List.mem_filter.mpr ⟨(tb_4 (List.mem_of_getElem? (i := 126) rfl)), by decide +kernel⟩
set_option maxRecDepth 100000 in
theorem w_1211 : (Jvm.Cond.selects "ScarArmy$Army" ({ cls := "ScarArmy$Army", name := "pensionOf", desc := "(I)I" } : Jvm.MethodName) ({ cls := "ScarArmy$Army", name := "pensionOf", desc := "(I)I" } : Jvm.MethodName)) ∈ pT := List.mem_filter.mpr ⟨(tb_4 (List.mem_of_getElem? (i := 127) rfl)), by decide +kernel⟩
set_option maxRecDepth 100000 in
theorem w_1212 : (Jvm.Cond.code ({ cls := "ScarArmy$Army", name := "pensionOf", desc := "(I)I" } : Jvm.MethodName) prog_2_method_9_code (4 : Nat) (Option.some Jvm.ClassFile.FieldType.int)) ∈ pT := List.mem_filter.mpr ⟨(tb_4 (List.mem_of_getElem? (i := 128) rfl)), by decide +kernel⟩
set_option maxRecDepth 100000 in
theorem w_1213 : (Jvm.Cond.methodLink "ScarArmy" (187 : Nat) ({ cls := "ScarArmy$Men", name := "cycleOf", desc := "(I)I" } : Jvm.MethodName)) ∈ pT := List.mem_filter.mpr ⟨(tb_4 (List.mem_of_getElem? (i := 129) rfl)), by decide +kernel⟩
set_option maxRecDepth 100000 in
theorem w_1214 : (Jvm.Cond.methodLink "ScarArmy" (190 : Nat) ({ cls := "ScarArmy$Army", name := "heldBy", desc := "(I)I" } : Jvm.MethodName)) ∈ pT := List.mem_filter.mpr ⟨(tb_4 (List.mem_of_getElem? (i := 130) rfl)), by decide +kernel⟩
set_option maxRecDepth 100000 in
theorem w_1222 : (Jvm.Cond.code ({ cls := "ScarArmy", name := "scar", desc := "(II)I" } : Jvm.MethodName) prog_1_method_9_code (3 : Nat) (Option.some Jvm.ClassFile.FieldType.int)) ∈ pT := List.mem_filter.mpr ⟨(tb_4 (List.mem_of_getElem? (i := 138) rfl)), by decide +kernel⟩
set_option maxRecDepth 100000 in
theorem w_1223 : (Jvm.Cond.methodLink "ScarArmy" (195 : Nat) ({ cls := "ScarArmy", name := "needScar", desc := "(I)V" } : Jvm.MethodName)) ∈ pT := List.mem_filter.mpr ⟨(tb_4 (List.mem_of_getElem? (i := 139) rfl)), by decide +kernel⟩
set_option maxRecDepth 100000 in
theorem w_1225 : (Jvm.Cond.instanceMethod ({ cls := "ScarArmy", name := "needScar", desc := "(I)V" } : Jvm.MethodName)) ∈ pT := List.mem_filter.mpr ⟨(tb_4 (List.mem_of_getElem? (i := 141) rfl)), by decide +kernel⟩
set_option maxRecDepth 100000 in
theorem w_1226 : (Jvm.Cond.code ({ cls := "ScarArmy", name := "needScar", desc := "(I)V" } : Jvm.MethodName) prog_1_method_51_code (2 : Nat) (Option.none : Option Jvm.ClassFile.FieldType)) ∈ pT := List.mem_filter.mpr ⟨(tb_4 (List.mem_of_getElem? (i := 142) rfl)), by decide +kernel⟩
set_option maxRecDepth 100000 in
theorem w_1228 : (Jvm.Cond.methodLink "ScarArmy" (219 : Nat) ({ cls := "ScarArmy$Army", name := "worthOf", desc := "(I)I" } : Jvm.MethodName)) ∈ pT := List.mem_filter.mpr ⟨(tb_4 (List.mem_of_getElem? (i := 144) rfl)), by decide +kernel⟩
set_option maxRecDepth 100000 in
theorem w_1229 : (Jvm.Cond.methodLink "ScarArmy" (222 : Nat) ({ cls := "ScarArmy$Army", name := "priceOf", desc := "(I)I" } : Jvm.MethodName)) ∈ pT := List.mem_filter.mpr ⟨(tb_4 (List.mem_of_getElem? (i := 145) rfl)), by decide +kernel⟩
set_option maxRecDepth 100000 in
theorem w_1230 : (Jvm.Cond.methodLink "ScarArmy" (228 : Nat) ({ cls := "ScarArmy$Scars", name := "threadOf", desc := "(I)I" } : Jvm.MethodName)) ∈ pT := List.mem_filter.mpr ⟨(tb_4 (List.mem_of_getElem? (i := 146) rfl)), by decide +kernel⟩
set_option maxRecDepth 100000 in
theorem w_1231 : (Jvm.Cond.instanceMethod ({ cls := "ScarArmy$Scars", name := "threadOf", desc := "(I)I" } : Jvm.MethodName)) ∈ pT := List.mem_filter.mpr ⟨(tb_4 (List.mem_of_getElem? (i := 147) rfl)), by decide +kernel⟩
set_option maxRecDepth 100000 in
theorem w_1232 : (Jvm.Cond.selects "ScarArmy$Scars" ({ cls := "ScarArmy$Scars", name := "threadOf", desc := "(I)I" } : Jvm.MethodName) ({ cls := "ScarArmy$Scars", name := "threadOf", desc := "(I)I" } : Jvm.MethodName)) ∈ pT := List.mem_filter.mpr ⟨(tb_4 (List.mem_of_getElem? (i := 148) rfl)), by decide +kernel⟩
set_option maxRecDepth 100000 in
theorem w_1233 : (Jvm.Cond.code ({ cls := "ScarArmy$Scars", name := "threadOf", desc := "(I)I" } : Jvm.MethodName) prog_10_method_16_code (4 : Nat) (Option.some Jvm.ClassFile.FieldType.int)) ∈ pT := List.mem_filter.mpr ⟨(tb_4 (List.mem_of_getElem? (i := 149) rfl)), by decide +kernel⟩
set_option maxRecDepth 100000 in
theorem w_1241 : (Jvm.Cond.code ({ cls := "ScarArmy", name := "who", desc := "(I)I" } : Jvm.MethodName) prog_1_method_10_code (2 : Nat) (Option.some Jvm.ClassFile.FieldType.int)) ∈ pT := List.mem_filter.mpr ⟨(tb_4 (List.mem_of_getElem? (i := 157) rfl)), by decide +kernel⟩
set_option maxRecDepth 100000 in
theorem w_1242 : (Jvm.Cond.methodLink "ScarArmy" (233 : Nat) ({ cls := "ScarArmy$Men", name := "goingBy", desc := "(I)I" } : Jvm.MethodName)) ∈ pT := List.mem_filter.mpr ⟨(tb_4 (List.mem_of_getElem? (i := 158) rfl)), by decide +kernel⟩
set_option maxRecDepth 100000 in
theorem w_1243 : (Jvm.Cond.instanceMethod ({ cls := "ScarArmy$Men", name := "goingBy", desc := "(I)I" } : Jvm.MethodName)) ∈ pT := List.mem_filter.mpr ⟨(tb_4 (List.mem_of_getElem? (i := 159) rfl)), by decide +kernel⟩
set_option maxRecDepth 100000 in
theorem w_1244 : (Jvm.Cond.selects "ScarArmy$Men" ({ cls := "ScarArmy$Men", name := "goingBy", desc := "(I)I" } : Jvm.MethodName) ({ cls := "ScarArmy$Men", name := "goingBy", desc := "(I)I" } : Jvm.MethodName)) ∈ pT := List.mem_filter.mpr ⟨(tb_4 (List.mem_of_getElem? (i := 160) rfl)), by decide +kernel⟩
set_option maxRecDepth 100000 in
theorem w_1245 : (Jvm.Cond.code ({ cls := "ScarArmy$Men", name := "goingBy", desc := "(I)I" } : Jvm.MethodName) prog_9_method_10_code (3 : Nat) (Option.some Jvm.ClassFile.FieldType.int)) ∈ pT := List.mem_filter.mpr ⟨(tb_4 (List.mem_of_getElem? (i := 161) rfl)), by decide +kernel⟩
set_option maxRecDepth 100000 in
theorem w_1253 : (Jvm.Cond.code ({ cls := "ScarArmy", name := "hand", desc := "(III)I" } : Jvm.MethodName) prog_1_method_11_code (5 : Nat) (Option.some Jvm.ClassFile.FieldType.int)) ∈ pT := List.mem_filter.mpr ⟨(tb_4 (List.mem_of_getElem? (i := 169) rfl)), by decide +kernel⟩
set_option maxRecDepth 100000 in
theorem w_1255 : (Jvm.Cond.classLink "ScarArmy" (238 : Nat) "java/lang/IllegalStateException") ∈ pT := List.mem_filter.mpr ⟨(tb_4 (List.mem_of_getElem? (i := 171) rfl)), by decide +kernel⟩
set_option maxRecDepth 100000 in
theorem w_1271 : (Jvm.Cond.methodLink "ScarArmy" (243 : Nat) ({ cls := "ScarArmy$Memory", name := "remember", desc := "(LScarArmy$Army;)V" } : Jvm.MethodName)) ∈ pT := List.mem_filter.mpr ⟨(tb_4 (List.mem_of_getElem? (i := 187) rfl)), by decide +kernel⟩
set_option maxRecDepth 100000 in
theorem w_1272 : (Jvm.Cond.instanceMethod ({ cls := "ScarArmy$Memory", name := "remember", desc := "(LScarArmy$Army;)V" } : Jvm.MethodName)) ∈ pT := List.mem_filter.mpr ⟨(tb_4 (List.mem_of_getElem? (i := 188) rfl)), by decide +kernel⟩
set_option maxRecDepth 100000 in
theorem w_1273 : (Jvm.Cond.selects "ScarArmy$Memory" ({ cls := "ScarArmy$Memory", name := "remember", desc := "(LScarArmy$Army;)V" } : Jvm.MethodName) ({ cls := "ScarArmy$Memory", name := "remember", desc := "(LScarArmy$Army;)V" } : Jvm.MethodName)) ∈ pT := List.mem_filter.mpr ⟨(tb_4 (List.mem_of_getElem? (i := 189) rfl)), by decide +kernel⟩
set_option maxRecDepth 100000 in
theorem w_1274 : (Jvm.Cond.code ({ cls := "ScarArmy$Memory", name := "remember", desc := "(LScarArmy$Army;)V" } : Jvm.MethodName) prog_8_method_2_code (2 : Nat) (Option.none : Option Jvm.ClassFile.FieldType)) ∈ pT := List.mem_filter.mpr ⟨(tb_4 (List.mem_of_getElem? (i := 190) rfl)), by decide +kernel⟩
set_option maxRecDepth 100000 in
theorem w_1275 : (Jvm.Cond.methodLink "ScarArmy$Memory" (29 : Nat) ({ cls := "java/lang/Math", name := "min", desc := "(II)I" } : Jvm.MethodName)) ∈ pT := List.mem_filter.mpr ⟨(tb_4 (List.mem_of_getElem? (i := 191) rfl)), by decide +kernel⟩
set_option maxRecDepth 100000 in
theorem w_1276 : (Jvm.Cond.methodLink "ScarArmy" (246 : Nat) ({ cls := "ScarArmy$Army", name := "handOver", desc := "(III)V" } : Jvm.MethodName)) ∈ pT := List.mem_filter.mpr ⟨(tb_4 (List.mem_of_getElem? (i := 192) rfl)), by decide +kernel⟩
set_option maxRecDepth 100000 in
theorem w_1277 : (Jvm.Cond.instanceMethod ({ cls := "ScarArmy$Army", name := "handOver", desc := "(III)V" } : Jvm.MethodName)) ∈ pT := List.mem_filter.mpr ⟨(tb_4 (List.mem_of_getElem? (i := 193) rfl)), by decide +kernel⟩
set_option maxRecDepth 100000 in
theorem w_1278 : (Jvm.Cond.selects "ScarArmy$Army" ({ cls := "ScarArmy$Army", name := "handOver", desc := "(III)V" } : Jvm.MethodName) ({ cls := "ScarArmy$Army", name := "handOver", desc := "(III)V" } : Jvm.MethodName)) ∈ pT := List.mem_filter.mpr ⟨(tb_4 (List.mem_of_getElem? (i := 194) rfl)), by decide +kernel⟩
set_option maxRecDepth 100000 in
theorem w_1279 : (Jvm.Cond.code ({ cls := "ScarArmy$Army", name := "handOver", desc := "(III)V" } : Jvm.MethodName) prog_2_method_14_code (5 : Nat) (Option.none : Option Jvm.ClassFile.FieldType)) ∈ pT := List.mem_filter.mpr ⟨(tb_4 (List.mem_of_getElem? (i := 195) rfl)), by decide +kernel⟩
set_option maxRecDepth 100000 in
theorem w_1280 : (Jvm.Cond.methodLink "ScarArmy$Army" (148 : Nat) ({ cls := "ScarArmy$Men", name := "earn", desc := "(II)I" } : Jvm.MethodName)) ∈ pT := List.mem_filter.mpr ⟨(tb_4 (List.mem_of_getElem? (i := 196) rfl)), by decide +kernel⟩
set_option maxRecDepth 100000 in
theorem w_1281 : (Jvm.Cond.instanceMethod ({ cls := "ScarArmy$Men", name := "earn", desc := "(II)I" } : Jvm.MethodName)) ∈ pT := List.mem_filter.mpr ⟨(tb_4 (List.mem_of_getElem? (i := 197) rfl)), by decide +kernel⟩
set_option maxRecDepth 100000 in
theorem w_1282 : (Jvm.Cond.selects "ScarArmy$Men" ({ cls := "ScarArmy$Men", name := "earn", desc := "(II)I" } : Jvm.MethodName) ({ cls := "ScarArmy$Men", name := "earn", desc := "(II)I" } : Jvm.MethodName)) ∈ pT := List.mem_filter.mpr ⟨(tb_4 (List.mem_of_getElem? (i := 198) rfl)), by decide +kernel⟩
set_option maxRecDepth 100000 in
theorem w_1283 : (Jvm.Cond.code ({ cls := "ScarArmy$Men", name := "earn", desc := "(II)I" } : Jvm.MethodName) prog_9_method_7_code (4 : Nat) (Option.some Jvm.ClassFile.FieldType.int)) ∈ pT := List.mem_filter.mpr ⟨(tb_4 (List.mem_of_getElem? (i := 199) rfl)), by decide +kernel⟩
set_option maxRecDepth 100000 in
theorem w_1284 : (Jvm.Cond.methodLink "ScarArmy$Men" (31 : Nat) ({ cls := "java/lang/Math", name := "min", desc := "(II)I" } : Jvm.MethodName)) ∈ pT := List.mem_filter.mpr ⟨(tb_4 (List.mem_of_getElem? (i := 200) rfl)), by decide +kernel⟩
set_option maxRecDepth 100000 in
theorem w_1285 : (Jvm.Cond.methodLink "ScarArmy$Army" (151 : Nat) ({ cls := "ScarArmy$Men", name := "changeNames", desc := "(II)V" } : Jvm.MethodName)) ∈ pT := List.mem_filter.mpr ⟨(tb_4 (List.mem_of_getElem? (i := 201) rfl)), by decide +kernel⟩
set_option maxRecDepth 100000 in
theorem w_1286 : (Jvm.Cond.instanceMethod ({ cls := "ScarArmy$Men", name := "changeNames", desc := "(II)V" } : Jvm.MethodName)) ∈ pT := List.mem_filter.mpr ⟨(tb_4 (List.mem_of_getElem? (i := 202) rfl)), by decide +kernel⟩
set_option maxRecDepth 100000 in
theorem w_1287 : (Jvm.Cond.selects "ScarArmy$Men" ({ cls := "ScarArmy$Men", name := "changeNames", desc := "(II)V" } : Jvm.MethodName) ({ cls := "ScarArmy$Men", name := "changeNames", desc := "(II)V" } : Jvm.MethodName)) ∈ pT := List.mem_filter.mpr ⟨(tb_4 (List.mem_of_getElem? (i := 203) rfl)), by decide +kernel⟩
set_option maxRecDepth 100000 in
theorem w_1288 : (Jvm.Cond.code ({ cls := "ScarArmy$Men", name := "changeNames", desc := "(II)V" } : Jvm.MethodName) prog_9_method_9_code (4 : Nat) (Option.none : Option Jvm.ClassFile.FieldType)) ∈ pT := List.mem_filter.mpr ⟨(tb_4 (List.mem_of_getElem? (i := 204) rfl)), by decide +kernel⟩
set_option maxRecDepth 100000 in
theorem w_1289 : (Jvm.Cond.methodLink "ScarArmy$Army" (155 : Nat) ({ cls := "ScarArmy$Log", name := "add", desc := "(IIIII)V" } : Jvm.MethodName)) ∈ pT := List.mem_filter.mpr ⟨(tb_4 (List.mem_of_getElem? (i := 205) rfl)), by decide +kernel⟩
set_option maxRecDepth 100000 in
theorem w_1290 : (Jvm.Cond.instanceMethod ({ cls := "ScarArmy$Log", name := "add", desc := "(IIIII)V" } : Jvm.MethodName)) ∈ pT := List.mem_filter.mpr ⟨(tb_4 (List.mem_of_getElem? (i := 206) rfl)), by decide +kernel⟩
set_option maxRecDepth 100000 in
theorem w_1291 : (Jvm.Cond.selects "ScarArmy$Log" ({ cls := "ScarArmy$Log", name := "add", desc := "(IIIII)V" } : Jvm.MethodName) ({ cls := "ScarArmy$Log", name := "add", desc := "(IIIII)V" } : Jvm.MethodName)) ∈ pT := List.mem_filter.mpr ⟨(tb_4 (List.mem_of_getElem? (i := 207) rfl)), by decide +kernel⟩
set_option maxRecDepth 100000 in
theorem w_1292 : (Jvm.Cond.code ({ cls := "ScarArmy$Log", name := "add", desc := "(IIIII)V" } : Jvm.MethodName) prog_7_method_3_code (7 : Nat) (Option.none : Option Jvm.ClassFile.FieldType)) ∈ pT := List.mem_filter.mpr ⟨(tb_4 (List.mem_of_getElem? (i := 208) rfl)), by decide +kernel⟩
set_option maxRecDepth 100000 in
theorem w_1293 : (Jvm.Cond.methodLink "ScarArmy$Log" (28 : Nat) ({ cls := "java/lang/Math", name := "min", desc := "(II)I" } : Jvm.MethodName)) ∈ pT := List.mem_filter.mpr ⟨(tb_4 (List.mem_of_getElem? (i := 209) rfl)), by decide +kernel⟩
set_option maxRecDepth 100000 in
theorem w_1300 : (Jvm.Cond.code ({ cls := "ScarArmy", name := "polish", desc := "(II)I" } : Jvm.MethodName) prog_1_method_12_code (3 : Nat) (Option.some Jvm.ClassFile.FieldType.int)) ∈ pT := List.mem_filter.mpr ⟨(tb_4 (List.mem_of_getElem? (i := 216) rfl)), by decide +kernel⟩
set_option maxRecDepth 100000 in
theorem w_1301 : (Jvm.Cond.methodLink "ScarArmy" (250 : Nat) ({ cls := "ScarArmy", name := "needTrade", desc := "(I)V" } : Jvm.MethodName)) ∈ pT := List.mem_filter.mpr ⟨(tb_4 (List.mem_of_getElem? (i := 217) rfl)), by decide +kernel⟩
set_option maxRecDepth 100000 in
theorem w_1303 : (Jvm.Cond.instanceMethod ({ cls := "ScarArmy", name := "needTrade", desc := "(I)V" } : Jvm.MethodName)) ∈ pT := List.mem_filter.mpr ⟨(tb_4 (List.mem_of_getElem? (i := 219) rfl)), by decide +kernel⟩
set_option maxRecDepth 100000 in
theorem w_1304 : (Jvm.Cond.code ({ cls := "ScarArmy", name := "needTrade", desc := "(I)V" } : Jvm.MethodName) prog_1_method_52_code (2 : Nat) (Option.none : Option Jvm.ClassFile.FieldType)) ∈ pT := List.mem_filter.mpr ⟨(tb_4 (List.mem_of_getElem? (i := 220) rfl)), by decide +kernel⟩
set_option maxRecDepth 100000 in
theorem w_1307 : (Jvm.Cond.methodLink "ScarArmy" (255 : Nat) ({ cls := "ScarArmy$Scars", name := "tellBetter", desc := "(II)I" } : Jvm.MethodName)) ∈ pT := List.mem_filter.mpr ⟨(tb_4 (List.mem_of_getElem? (i := 223) rfl)), by decide +kernel⟩
set_option maxRecDepth 100000 in
theorem w_1308 : (Jvm.Cond.instanceMethod ({ cls := "ScarArmy$Scars", name := "tellBetter", desc := "(II)I" } : Jvm.MethodName)) ∈ pT := List.mem_filter.mpr ⟨(tb_4 (List.mem_of_getElem? (i := 224) rfl)), by decide +kernel⟩
set_option maxRecDepth 100000 in
theorem w_1309 : (Jvm.Cond.selects "ScarArmy$Scars" ({ cls := "ScarArmy$Scars", name := "tellBetter", desc := "(II)I" } : Jvm.MethodName) ({ cls := "ScarArmy$Scars", name := "tellBetter", desc := "(II)I" } : Jvm.MethodName)) ∈ pT := List.mem_filter.mpr ⟨(tb_4 (List.mem_of_getElem? (i := 225) rfl)), by decide +kernel⟩
set_option maxRecDepth 100000 in
theorem w_1310 : (Jvm.Cond.code ({ cls := "ScarArmy$Scars", name := "tellBetter", desc := "(II)I" } : Jvm.MethodName) prog_10_method_5_code (3 : Nat) (Option.some Jvm.ClassFile.FieldType.int)) ∈ pT := List.mem_filter.mpr ⟨(tb_4 (List.mem_of_getElem? (i := 226) rfl)), by decide +kernel⟩
set_option maxRecDepth 100000 in
theorem w_1317 : (Jvm.Cond.code ({ cls := "ScarArmy", name := "die", desc := "(I)I" } : Jvm.MethodName) prog_1_method_13_code (3 : Nat) (Option.some Jvm.ClassFile.FieldType.int)) ∈ pT := List.mem_filter.mpr ⟨(tb_4 (List.mem_of_getElem? (i := 233) rfl)), by decide +kernel⟩
set_option maxRecDepth 100000 in
theorem w_1319 : (Jvm.Cond.methodLink "ScarArmy" (261 : Nat) ({ cls := "ScarArmy$Men", name := "bury", desc := "(I)V" } : Jvm.MethodName)) ∈ pT := List.mem_filter.mpr ⟨(tb_4 (List.mem_of_getElem? (i := 235) rfl)), by decide +kernel⟩
set_option maxRecDepth 100000 in
theorem w_1326 : (Jvm.Cond.code ({ cls := "ScarArmy", name := "widow", desc := "(II)I" } : Jvm.MethodName) prog_1_method_14_code (3 : Nat) (Option.some Jvm.ClassFile.FieldType.int)) ∈ pT := List.mem_filter.mpr ⟨(tb_5 (List.mem_of_getElem? (i := 2) rfl)), by decide +kernel⟩
set_option maxRecDepth 100000 in
theorem w_1329 : (Jvm.Cond.methodLink "ScarArmy" (268 : Nat) ({ cls := "ScarArmy$Army", name := "inherit", desc := "(II)I" } : Jvm.MethodName)) ∈ pT := List.mem_filter.mpr ⟨(tb_5 (List.mem_of_getElem? (i := 5) rfl)), by decide +kernel⟩
set_option maxRecDepth 100000 in
theorem w_1330 : (Jvm.Cond.instanceMethod ({ cls := "ScarArmy$Army", name := "inherit", desc := "(II)I" } : Jvm.MethodName)) ∈ pT := List.mem_filter.mpr ⟨(tb_5 (List.mem_of_getElem? (i := 6) rfl)), by decide +kernel⟩
set_option maxRecDepth 100000 in
theorem w_1331 : (Jvm.Cond.selects "ScarArmy$Army" ({ cls := "ScarArmy$Army", name := "inherit", desc := "(II)I" } : Jvm.MethodName) ({ cls := "ScarArmy$Army", name := "inherit", desc := "(II)I" } : Jvm.MethodName)) ∈ pT := List.mem_filter.mpr ⟨(tb_5 (List.mem_of_getElem? (i := 7) rfl)), by decide +kernel⟩
set_option maxRecDepth 100000 in
theorem w_1332 : (Jvm.Cond.code ({ cls := "ScarArmy$Army", name := "inherit", desc := "(II)I" } : Jvm.MethodName) prog_2_method_15_code (5 : Nat) (Option.some Jvm.ClassFile.FieldType.int)) ∈ pT := List.mem_filter.mpr ⟨(tb_5 (List.mem_of_getElem? (i := 8) rfl)), by decide +kernel⟩
set_option maxRecDepth 100000 in
theorem w_1339 : (Jvm.Cond.code ({ cls := "ScarArmy", name := "wound", desc := "(IIIII)I" } : Jvm.MethodName) prog_1_method_15_code (6 : Nat) (Option.some Jvm.ClassFile.FieldType.int)) ∈ pT := List.mem_filter.mpr ⟨(tb_5 (List.mem_of_getElem? (i := 15) rfl)), by decide +kernel⟩
set_option maxRecDepth 100000 in
theorem w_1344 : (Jvm.Cond.methodLink "ScarArmy" (285 : Nat) ({ cls := "ScarArmy$Scars", name := "add", desc := "(IIIII)I" } : Jvm.MethodName)) ∈ pT := List.mem_filter.mpr ⟨(tb_5 (List.mem_of_getElem? (i := 20) rfl)), by decide +kernel⟩
set_option maxRecDepth 100000 in
theorem w_1351 : (Jvm.Cond.code ({ cls := "ScarArmy", name := "days", desc := "(I)I" } : Jvm.MethodName) prog_1_method_16_code (2 : Nat) (Option.some Jvm.ClassFile.FieldType.int)) ∈ pT := List.mem_filter.mpr ⟨(tb_5 (List.mem_of_getElem? (i := 27) rfl)), by decide +kernel⟩
set_option maxRecDepth 100000 in
theorem w_1353 : (Jvm.Cond.methodLink "ScarArmy" (291 : Nat) ({ cls := "ScarArmy$Army", name := "passDays", desc := "(I)I" } : Jvm.MethodName)) ∈ pT := List.mem_filter.mpr ⟨(tb_5 (List.mem_of_getElem? (i := 29) rfl)), by decide +kernel⟩
set_option maxRecDepth 100000 in
theorem w_1354 : (Jvm.Cond.instanceMethod ({ cls := "ScarArmy$Army", name := "passDays", desc := "(I)I" } : Jvm.MethodName)) ∈ pT := List.mem_filter.mpr ⟨(tb_5 (List.mem_of_getElem? (i := 30) rfl)), by decide +kernel⟩
set_option maxRecDepth 100000 in
theorem w_1355 : (Jvm.Cond.selects "ScarArmy$Army" ({ cls := "ScarArmy$Army", name := "passDays", desc := "(I)I" } : Jvm.MethodName) ({ cls := "ScarArmy$Army", name := "passDays", desc := "(I)I" } : Jvm.MethodName)) ∈ pT := List.mem_filter.mpr ⟨(tb_5 (List.mem_of_getElem? (i := 31) rfl)), by decide +kernel⟩
set_option maxRecDepth 100000 in
theorem w_1356 : (Jvm.Cond.code ({ cls := "ScarArmy$Army", name := "passDays", desc := "(I)I" } : Jvm.MethodName) prog_2_method_16_code (5 : Nat) (Option.some Jvm.ClassFile.FieldType.int)) ∈ pT := List.mem_filter.mpr ⟨(tb_5 (List.mem_of_getElem? (i := 32) rfl)), by decide +kernel⟩
set_option maxRecDepth 100000 in
theorem w_1357 : (Jvm.Cond.methodLink "ScarArmy$Army" (159 : Nat) ({ cls := "java/lang/Math", name := "min", desc := "(II)I" } : Jvm.MethodName)) ∈ pT := List.mem_filter.mpr ⟨(tb_5 (List.mem_of_getElem? (i := 33) rfl)), by decide +kernel⟩
set_option maxRecDepth 100000 in
theorem w_1358 : (Jvm.Cond.methodLink "ScarArmy$Army" (162 : Nat) ({ cls := "ScarArmy$Army", name := "payPensions", desc := "()I" } : Jvm.MethodName)) ∈ pT := List.mem_filter.mpr ⟨(tb_5 (List.mem_of_getElem? (i := 34) rfl)), by decide +kernel⟩
set_option maxRecDepth 100000 in
theorem w_1360 : (Jvm.Cond.instanceMethod ({ cls := "ScarArmy$Army", name := "payPensions", desc := "()I" } : Jvm.MethodName)) ∈ pT := List.mem_filter.mpr ⟨(tb_5 (List.mem_of_getElem? (i := 36) rfl)), by decide +kernel⟩
set_option maxRecDepth 100000 in
theorem w_1361 : (Jvm.Cond.code ({ cls := "ScarArmy$Army", name := "payPensions", desc := "()I" } : Jvm.MethodName) prog_2_method_17_code (3 : Nat) (Option.some Jvm.ClassFile.FieldType.int)) ∈ pT := List.mem_filter.mpr ⟨(tb_5 (List.mem_of_getElem? (i := 37) rfl)), by decide +kernel⟩
set_option maxRecDepth 100000 in
theorem w_1362 : (Jvm.Cond.methodLink "ScarArmy$Army" (169 : Nat) ({ cls := "ScarArmy$Army", name := "pensionOf", desc := "(I)I" } : Jvm.MethodName)) ∈ pT := List.mem_filter.mpr ⟨(tb_5 (List.mem_of_getElem? (i := 38) rfl)), by decide +kernel⟩
set_option maxRecDepth 100000 in
theorem w_1369 : (Jvm.Cond.code ({ cls := "ScarArmy", name := "market", desc := "(I)I" } : Jvm.MethodName) prog_1_method_17_code (2 : Nat) (Option.some Jvm.ClassFile.FieldType.int)) ∈ pT := List.mem_filter.mpr ⟨(tb_5 (List.mem_of_getElem? (i := 45) rfl)), by decide +kernel⟩
set_option maxRecDepth 100000 in
theorem w_1370 : (Jvm.Cond.methodLink "ScarArmy" (294 : Nat) ({ cls := "ScarArmy", name := "needSales", desc := "(I)V" } : Jvm.MethodName)) ∈ pT := List.mem_filter.mpr ⟨(tb_5 (List.mem_of_getElem? (i := 46) rfl)), by decide +kernel⟩
set_option maxRecDepth 100000 in
theorem w_1372 : (Jvm.Cond.instanceMethod ({ cls := "ScarArmy", name := "needSales", desc := "(I)V" } : Jvm.MethodName)) ∈ pT := List.mem_filter.mpr ⟨(tb_5 (List.mem_of_getElem? (i := 48) rfl)), by decide +kernel⟩
set_option maxRecDepth 100000 in
theorem w_1373 : (Jvm.Cond.code ({ cls := "ScarArmy", name := "needSales", desc := "(I)V" } : Jvm.MethodName) prog_1_method_53_code (2 : Nat) (Option.none : Option Jvm.ClassFile.FieldType)) ∈ pT := List.mem_filter.mpr ⟨(tb_5 (List.mem_of_getElem? (i := 49) rfl)), by decide +kernel⟩
set_option maxRecDepth 100000 in
theorem w_1375 : (Jvm.Cond.methodLink "ScarArmy" (297 : Nat) ({ cls := "ScarArmy$Army", name := "runSales", desc := "(IZ)I" } : Jvm.MethodName)) ∈ pT := List.mem_filter.mpr ⟨(tb_5 (List.mem_of_getElem? (i := 51) rfl)), by decide +kernel⟩
set_option maxRecDepth 100000 in
theorem w_1376 : (Jvm.Cond.instanceMethod ({ cls := "ScarArmy$Army", name := "runSales", desc := "(IZ)I" } : Jvm.MethodName)) ∈ pT := List.mem_filter.mpr ⟨(tb_5 (List.mem_of_getElem? (i := 52) rfl)), by decide +kernel⟩
set_option maxRecDepth 100000 in
theorem w_1377 : (Jvm.Cond.selects "ScarArmy$Army" ({ cls := "ScarArmy$Army", name := "runSales", desc := "(IZ)I" } : Jvm.MethodName) ({ cls := "ScarArmy$Army", name := "runSales", desc := "(IZ)I" } : Jvm.MethodName)) ∈ pT := List.mem_filter.mpr ⟨(tb_5 (List.mem_of_getElem? (i := 53) rfl)), by decide +kernel⟩
set_option maxRecDepth 100000 in
theorem w_1378 : (Jvm.Cond.code ({ cls := "ScarArmy$Army", name := "runSales", desc := "(IZ)I" } : Jvm.MethodName) prog_2_method_19_code (9 : Nat) (Option.some Jvm.ClassFile.FieldType.int)) ∈ pT := List.mem_filter.mpr ⟨(tb_5 (List.mem_of_getElem? (i := 54) rfl)), by decide +kernel⟩
set_option maxRecDepth 100000 in
theorem w_1379 : (Jvm.Cond.methodLink "ScarArmy$Army" (173 : Nat) ({ cls := "ScarArmy$Army", name := "draw", desc := "()I" } : Jvm.MethodName)) ∈ pT := List.mem_filter.mpr ⟨(tb_5 (List.mem_of_getElem? (i := 55) rfl)), by decide +kernel⟩
set_option maxRecDepth 100000 in
theorem w_1381 : (Jvm.Cond.instanceMethod ({ cls := "ScarArmy$Army", name := "draw", desc := "()I" } : Jvm.MethodName)) ∈ pT := List.mem_filter.mpr ⟨(tb_5 (List.mem_of_getElem? (i := 57) rfl)), by decide +kernel⟩
set_option maxRecDepth 100000 in
theorem w_1382 : (Jvm.Cond.code ({ cls := "ScarArmy$Army", name := "draw", desc := "()I" } : Jvm.MethodName) prog_2_method_18_code (1 : Nat) (Option.some Jvm.ClassFile.FieldType.int)) ∈ pT := List.mem_filter.mpr ⟨(tb_5 (List.mem_of_getElem? (i := 58) rfl)), by decide +kernel⟩
set_option maxRecDepth 100000 in
theorem w_1383 : (Jvm.Cond.constant "ScarArmy$Army" (172 : Nat) (1103515245 : Int32)) ∈ pT := List.mem_filter.mpr ⟨(tb_5 (List.mem_of_getElem? (i := 59) rfl)), by decide +kernel⟩
set_option maxRecDepth 100000 in
theorem w_1384 : (Jvm.Cond.methodLink "ScarArmy$Army" (176 : Nat) ({ cls := "ScarArmy$Army", name := "handOver", desc := "(III)V" } : Jvm.MethodName)) ∈ pT := List.mem_filter.mpr ⟨(tb_5 (List.mem_of_getElem? (i := 60) rfl)), by decide +kernel⟩
set_option maxRecDepth 100000 in
theorem w_1391 : (Jvm.Cond.code ({ cls := "ScarArmy", name := "largest", desc := "(IZ)I" } : Jvm.MethodName) prog_1_method_20_code (5 : Nat) (Option.some Jvm.ClassFile.FieldType.int)) ∈ pT := List.mem_filter.mpr ⟨(tb_5 (List.mem_of_getElem? (i := 67) rfl)), by decide +kernel⟩
set_option maxRecDepth 100000 in
theorem w_1392 : (Jvm.Cond.methodLink "ScarArmy" (316 : Nat) ({ cls := "ScarArmy$Search", name := "mostHis", desc := "(LScarArmy$Army;I)I" } : Jvm.MethodName)) ∈ pT := List.mem_filter.mpr ⟨(tb_5 (List.mem_of_getElem? (i := 68) rfl)), by decide +kernel⟩
set_option maxRecDepth 100000 in
theorem w_1393 : (Jvm.Cond.instanceMethod ({ cls := "ScarArmy$Search", name := "mostHis", desc := "(LScarArmy$Army;I)I" } : Jvm.MethodName)) ∈ pT := List.mem_filter.mpr ⟨(tb_5 (List.mem_of_getElem? (i := 69) rfl)), by decide +kernel⟩
set_option maxRecDepth 100000 in
theorem w_1394 : (Jvm.Cond.selects "ScarArmy$Search" ({ cls := "ScarArmy$Search", name := "mostHis", desc := "(LScarArmy$Army;I)I" } : Jvm.MethodName) ({ cls := "ScarArmy$Search", name := "mostHis", desc := "(LScarArmy$Army;I)I" } : Jvm.MethodName)) ∈ pT := List.mem_filter.mpr ⟨(tb_5 (List.mem_of_getElem? (i := 70) rfl)), by decide +kernel⟩
set_option maxRecDepth 100000 in
theorem w_1395 : (Jvm.Cond.code ({ cls := "ScarArmy$Search", name := "mostHis", desc := "(LScarArmy$Army;I)I" } : Jvm.MethodName) prog_11_method_3_code (7 : Nat) (Option.some Jvm.ClassFile.FieldType.int)) ∈ pT := List.mem_filter.mpr ⟨(tb_5 (List.mem_of_getElem? (i := 71) rfl)), by decide +kernel⟩
set_option maxRecDepth 100000 in
theorem w_1396 : (Jvm.Cond.methodLink "ScarArmy$Search" (57 : Nat) ({ cls := "ScarArmy$Search", name := "scarsOf", desc := "(II)I" } : Jvm.MethodName)) ∈ pT := List.mem_filter.mpr ⟨(tb_5 (List.mem_of_getElem? (i := 72) rfl)), by decide +kernel⟩
set_option maxRecDepth 100000 in
theorem w_1398 : (Jvm.Cond.instanceMethod ({ cls := "ScarArmy$Search", name := "scarsOf", desc := "(II)I" } : Jvm.MethodName)) ∈ pT := List.mem_filter.mpr ⟨(tb_5 (List.mem_of_getElem? (i := 74) rfl)), by decide +kernel⟩
set_option maxRecDepth 100000 in
theorem w_1399 : (Jvm.Cond.code ({ cls := "ScarArmy$Search", name := "scarsOf", desc := "(II)I" } : Jvm.MethodName) prog_11_method_6_code (5 : Nat) (Option.some Jvm.ClassFile.FieldType.int)) ∈ pT := List.mem_filter.mpr ⟨(tb_5 (List.mem_of_getElem? (i := 75) rfl)), by decide +kernel⟩
set_option maxRecDepth 100000 in
theorem w_1406 : (Jvm.Cond.code ({ cls := "ScarArmy", name := "betrays", desc := "(I)I" } : Jvm.MethodName) prog_1_method_21_code (3 : Nat) (Option.some Jvm.ClassFile.FieldType.int)) ∈ pT := List.mem_filter.mpr ⟨(tb_5 (List.mem_of_getElem? (i := 82) rfl)), by decide +kernel⟩
set_option maxRecDepth 100000 in
theorem w_1407 : (Jvm.Cond.methodLink "ScarArmy" (320 : Nat) ({ cls := "ScarArmy$Search", name := "giveaways", desc := "(LScarArmy$Army;I)I" } : Jvm.MethodName)) ∈ pT := List.mem_filter.mpr ⟨(tb_5 (List.mem_of_getElem? (i := 83) rfl)), by decide +kernel⟩
set_option maxRecDepth 100000 in
theorem w_1408 : (Jvm.Cond.instanceMethod ({ cls := "ScarArmy$Search", name := "giveaways", desc := "(LScarArmy$Army;I)I" } : Jvm.MethodName)) ∈ pT := List.mem_filter.mpr ⟨(tb_5 (List.mem_of_getElem? (i := 84) rfl)), by decide +kernel⟩
set_option maxRecDepth 100000 in
theorem w_1409 : (Jvm.Cond.selects "ScarArmy$Search" ({ cls := "ScarArmy$Search", name := "giveaways", desc := "(LScarArmy$Army;I)I" } : Jvm.MethodName) ({ cls := "ScarArmy$Search", name := "giveaways", desc := "(LScarArmy$Army;I)I" } : Jvm.MethodName)) ∈ pT := List.mem_filter.mpr ⟨(tb_5 (List.mem_of_getElem? (i := 85) rfl)), by decide +kernel⟩
set_option maxRecDepth 100000 in
theorem w_1410 : (Jvm.Cond.code ({ cls := "ScarArmy$Search", name := "giveaways", desc := "(LScarArmy$Army;I)I" } : Jvm.MethodName) prog_11_method_4_code (7 : Nat) (Option.some Jvm.ClassFile.FieldType.int)) ∈ pT := List.mem_filter.mpr ⟨(tb_5 (List.mem_of_getElem? (i := 86) rfl)), by decide +kernel⟩
set_option maxRecDepth 100000 in
theorem w_1417 : (Jvm.Cond.code ({ cls := "ScarArmy", name := "least", desc := "(IIZ)I" } : Jvm.MethodName) prog_1_method_23_code (4 : Nat) (Option.some Jvm.ClassFile.FieldType.int)) ∈ pT := List.mem_filter.mpr ⟨(tb_5 (List.mem_of_getElem? (i := 93) rfl)), by decide +kernel⟩
set_option maxRecDepth 100000 in
theorem w_1419 : (Jvm.Cond.methodLink "ScarArmy" (328 : Nat) ({ cls := "ScarArmy$Search", name := "cheapest", desc := "(LScarArmy$Army;IIZ)I" } : Jvm.MethodName)) ∈ pT := List.mem_filter.mpr ⟨(tb_5 (List.mem_of_getElem? (i := 95) rfl)), by decide +kernel⟩
set_option maxRecDepth 100000 in
theorem w_1420 : (Jvm.Cond.instanceMethod ({ cls := "ScarArmy$Search", name := "cheapest", desc := "(LScarArmy$Army;IIZ)I" } : Jvm.MethodName)) ∈ pT := List.mem_filter.mpr ⟨(tb_5 (List.mem_of_getElem? (i := 96) rfl)), by decide +kernel⟩
set_option maxRecDepth 100000 in
theorem w_1421 : (Jvm.Cond.selects "ScarArmy$Search" ({ cls := "ScarArmy$Search", name := "cheapest", desc := "(LScarArmy$Army;IIZ)I" } : Jvm.MethodName) ({ cls := "ScarArmy$Search", name := "cheapest", desc := "(LScarArmy$Army;IIZ)I" } : Jvm.MethodName)) ∈ pT := List.mem_filter.mpr ⟨(tb_5 (List.mem_of_getElem? (i := 97) rfl)), by decide +kernel⟩
set_option maxRecDepth 100000 in
theorem w_1422 : (Jvm.Cond.code ({ cls := "ScarArmy$Search", name := "cheapest", desc := "(LScarArmy$Army;IIZ)I" } : Jvm.MethodName) prog_11_method_12_code (8 : Nat) (Option.some Jvm.ClassFile.FieldType.int)) ∈ pT := List.mem_filter.mpr ⟨(tb_5 (List.mem_of_getElem? (i := 98) rfl)), by decide +kernel⟩
set_option maxRecDepth 100000 in
theorem w_1423 : (Jvm.Cond.methodLink "ScarArmy$Search" (118 : Nat) ({ cls := "ScarArmy$Men", name := "isAlive", desc := "(I)Z" } : Jvm.MethodName)) ∈ pT := List.mem_filter.mpr ⟨(tb_5 (List.mem_of_getElem? (i := 99) rfl)), by decide +kernel⟩
set_option maxRecDepth 100000 in
theorem w_1424 : (Jvm.Cond.methodLink "ScarArmy$Search" (121 : Nat) ({ cls := "ScarArmy$Army", name := "judgedOn", desc := "(II)I" } : Jvm.MethodName)) ∈ pT := List.mem_filter.mpr ⟨(tb_5 (List.mem_of_getElem? (i := 100) rfl)), by decide +kernel⟩
set_option maxRecDepth 100000 in
theorem w_1425 : (Jvm.Cond.methodLink "ScarArmy$Search" (124 : Nat) ({ cls := "java/lang/Math", name := "max", desc := "(II)I" } : Jvm.MethodName)) ∈ pT := List.mem_filter.mpr ⟨(tb_5 (List.mem_of_getElem? (i := 101) rfl)), by decide +kernel⟩
set_option maxRecDepth 100000 in
theorem w_1426 : (Jvm.Cond.methodLink "ScarArmy$Search" (129 : Nat) ({ cls := "ScarArmy$Army", name := "priceOf", desc := "(I)I" } : Jvm.MethodName)) ∈ pT := List.mem_filter.mpr ⟨(tb_5 (List.mem_of_getElem? (i := 102) rfl)), by decide +kernel⟩
set_option maxRecDepth 100000 in
theorem w_1427 : (Jvm.Cond.methodLink "ScarArmy$Search" (132 : Nat) ({ cls := "ScarArmy$Army", name := "worthBorneBy", desc := "(I)I" } : Jvm.MethodName)) ∈ pT := List.mem_filter.mpr ⟨(tb_5 (List.mem_of_getElem? (i := 103) rfl)), by decide +kernel⟩
set_option maxRecDepth 100000 in
theorem w_1428 : (Jvm.Cond.methodLink "ScarArmy$Search" (135 : Nat) ({ cls := "ScarArmy$Search", name := "buy", desc := "(IIII)V" } : Jvm.MethodName)) ∈ pT := List.mem_filter.mpr ⟨(tb_5 (List.mem_of_getElem? (i := 104) rfl)), by decide +kernel⟩
set_option maxRecDepth 100000 in
theorem w_1430 : (Jvm.Cond.instanceMethod ({ cls := "ScarArmy$Search", name := "buy", desc := "(IIII)V" } : Jvm.MethodName)) ∈ pT := List.mem_filter.mpr ⟨(tb_5 (List.mem_of_getElem? (i := 106) rfl)), by decide +kernel⟩
set_option maxRecDepth 100000 in
theorem w_1431 : (Jvm.Cond.code ({ cls := "ScarArmy$Search", name := "buy", desc := "(IIII)V" } : Jvm.MethodName) prog_11_method_13_code (5 : Nat) (Option.none : Option Jvm.ClassFile.FieldType)) ∈ pT := List.mem_filter.mpr ⟨(tb_5 (List.mem_of_getElem? (i := 107) rfl)), by decide +kernel⟩
set_option maxRecDepth 100000 in
theorem w_1438 : (Jvm.Cond.code ({ cls := "ScarArmy", name := "gains", desc := "(II)I" } : Jvm.MethodName) prog_1_method_24_code (3 : Nat) (Option.some Jvm.ClassFile.FieldType.int)) ∈ pT := List.mem_filter.mpr ⟨(tb_5 (List.mem_of_getElem? (i := 114) rfl)), by decide +kernel⟩
set_option maxRecDepth 100000 in
theorem w_1439 : (Jvm.Cond.methodLink "ScarArmy" (332 : Nat) ({ cls := "ScarArmy$Army", name := "gainOf", desc := "(II)I" } : Jvm.MethodName)) ∈ pT := List.mem_filter.mpr ⟨(tb_5 (List.mem_of_getElem? (i := 115) rfl)), by decide +kernel⟩
set_option maxRecDepth 100000 in
theorem w_1446 : (Jvm.Cond.code ({ cls := "ScarArmy", name := "buyer", desc := "(I)I" } : Jvm.MethodName) prog_1_method_25_code (2 : Nat) (Option.some Jvm.ClassFile.FieldType.int)) ∈ pT := List.mem_filter.mpr ⟨(tb_5 (List.mem_of_getElem? (i := 122) rfl)), by decide +kernel⟩
set_option maxRecDepth 100000 in
theorem w_1447 : (Jvm.Cond.methodLink "ScarArmy" (335 : Nat) ({ cls := "ScarArmy$Army", name := "bestBuyer", desc := "(I)I" } : Jvm.MethodName)) ∈ pT := List.mem_filter.mpr ⟨(tb_5 (List.mem_of_getElem? (i := 123) rfl)), by decide +kernel⟩
set_option maxRecDepth 100000 in
theorem w_1454 : (Jvm.Cond.code ({ cls := "ScarArmy", name := "enemies", desc := "(I)I" } : Jvm.MethodName) prog_1_method_26_code (3 : Nat) (Option.some Jvm.ClassFile.FieldType.int)) ∈ pT := List.mem_filter.mpr ⟨(tb_5 (List.mem_of_getElem? (i := 130) rfl)), by decide +kernel⟩
set_option maxRecDepth 100000 in
theorem w_1455 : (Jvm.Cond.methodLink "ScarArmy" (338 : Nat) ({ cls := "ScarArmy$Search", name := "hear", desc := "(LScarArmy$Army;LScarArmy$Tape;)I" } : Jvm.MethodName)) ∈ pT := List.mem_filter.mpr ⟨(tb_5 (List.mem_of_getElem? (i := 131) rfl)), by decide +kernel⟩
set_option maxRecDepth 100000 in
theorem w_1456 : (Jvm.Cond.instanceMethod ({ cls := "ScarArmy$Search", name := "hear", desc := "(LScarArmy$Army;LScarArmy$Tape;)I" } : Jvm.MethodName)) ∈ pT := List.mem_filter.mpr ⟨(tb_5 (List.mem_of_getElem? (i := 132) rfl)), by decide +kernel⟩
set_option maxRecDepth 100000 in
theorem w_1457 : (Jvm.Cond.selects "ScarArmy$Search" ({ cls := "ScarArmy$Search", name := "hear", desc := "(LScarArmy$Army;LScarArmy$Tape;)I" } : Jvm.MethodName) ({ cls := "ScarArmy$Search", name := "hear", desc := "(LScarArmy$Army;LScarArmy$Tape;)I" } : Jvm.MethodName)) ∈ pT := List.mem_filter.mpr ⟨(tb_5 (List.mem_of_getElem? (i := 133) rfl)), by decide +kernel⟩
set_option maxRecDepth 100000 in
theorem w_1458 : (Jvm.Cond.code ({ cls := "ScarArmy$Search", name := "hear", desc := "(LScarArmy$Army;LScarArmy$Tape;)I" } : Jvm.MethodName) prog_11_method_14_code (7 : Nat) (Option.some Jvm.ClassFile.FieldType.int)) ∈ pT := List.mem_filter.mpr ⟨(tb_5 (List.mem_of_getElem? (i := 134) rfl)), by decide +kernel⟩
set_option maxRecDepth 100000 in
theorem w_1459 : (Jvm.Cond.methodLink "ScarArmy$Search" (144 : Nat) ({ cls := "ScarArmy$Tape", name := "byteAt", desc := "(I)I" } : Jvm.MethodName)) ∈ pT := List.mem_filter.mpr ⟨(tb_5 (List.mem_of_getElem? (i := 135) rfl)), by decide +kernel⟩
set_option maxRecDepth 100000 in
theorem w_1460 : (Jvm.Cond.instanceMethod ({ cls := "ScarArmy$Tape", name := "byteAt", desc := "(I)I" } : Jvm.MethodName)) ∈ pT := List.mem_filter.mpr ⟨(tb_5 (List.mem_of_getElem? (i := 136) rfl)), by decide +kernel⟩
set_option maxRecDepth 100000 in
theorem w_1461 : (Jvm.Cond.selects "ScarArmy$Tape" ({ cls := "ScarArmy$Tape", name := "byteAt", desc := "(I)I" } : Jvm.MethodName) ({ cls := "ScarArmy$Tape", name := "byteAt", desc := "(I)I" } : Jvm.MethodName)) ∈ pT := List.mem_filter.mpr ⟨(tb_5 (List.mem_of_getElem? (i := 137) rfl)), by decide +kernel⟩
set_option maxRecDepth 100000 in
theorem w_1462 : (Jvm.Cond.code ({ cls := "ScarArmy$Tape", name := "byteAt", desc := "(I)I" } : Jvm.MethodName) prog_12_method_3_code (2 : Nat) (Option.some Jvm.ClassFile.FieldType.int)) ∈ pT := List.mem_filter.mpr ⟨(tb_5 (List.mem_of_getElem? (i := 138) rfl)), by decide +kernel⟩
set_option maxRecDepth 100000 in
theorem w_1463 : (Jvm.Cond.methodLink "ScarArmy$Search" (147 : Nat) ({ cls := "ScarArmy$Scars", name := "menStruck", desc := "(II)I" } : Jvm.MethodName)) ∈ pT := List.mem_filter.mpr ⟨(tb_5 (List.mem_of_getElem? (i := 139) rfl)), by decide +kernel⟩
set_option maxRecDepth 100000 in
theorem w_1464 : (Jvm.Cond.instanceMethod ({ cls := "ScarArmy$Scars", name := "menStruck", desc := "(II)I" } : Jvm.MethodName)) ∈ pT := List.mem_filter.mpr ⟨(tb_5 (List.mem_of_getElem? (i := 140) rfl)), by decide +kernel⟩
set_option maxRecDepth 100000 in
theorem w_1465 : (Jvm.Cond.selects "ScarArmy$Scars" ({ cls := "ScarArmy$Scars", name := "menStruck", desc := "(II)I" } : Jvm.MethodName) ({ cls := "ScarArmy$Scars", name := "menStruck", desc := "(II)I" } : Jvm.MethodName)) ∈ pT := List.mem_filter.mpr ⟨(tb_5 (List.mem_of_getElem? (i := 141) rfl)), by decide +kernel⟩
set_option maxRecDepth 100000 in
theorem w_1466 : (Jvm.Cond.code ({ cls := "ScarArmy$Scars", name := "menStruck", desc := "(II)I" } : Jvm.MethodName) prog_10_method_14_code (5 : Nat) (Option.some Jvm.ClassFile.FieldType.int)) ∈ pT := List.mem_filter.mpr ⟨(tb_5 (List.mem_of_getElem? (i := 142) rfl)), by decide +kernel⟩
set_option maxRecDepth 100000 in
theorem w_1468 : (Jvm.Cond.methodLink "ScarArmy" (344 : Nat) ({ cls := "ScarArmy$Search", name := "mostRight", desc := "(I)I" } : Jvm.MethodName)) ∈ pT := List.mem_filter.mpr ⟨(tb_5 (List.mem_of_getElem? (i := 144) rfl)), by decide +kernel⟩
set_option maxRecDepth 100000 in
theorem w_1469 : (Jvm.Cond.instanceMethod ({ cls := "ScarArmy$Search", name := "mostRight", desc := "(I)I" } : Jvm.MethodName)) ∈ pT := List.mem_filter.mpr ⟨(tb_5 (List.mem_of_getElem? (i := 145) rfl)), by decide +kernel⟩
set_option maxRecDepth 100000 in
theorem w_1470 : (Jvm.Cond.selects "ScarArmy$Search" ({ cls := "ScarArmy$Search", name := "mostRight", desc := "(I)I" } : Jvm.MethodName) ({ cls := "ScarArmy$Search", name := "mostRight", desc := "(I)I" } : Jvm.MethodName)) ∈ pT := List.mem_filter.mpr ⟨(tb_5 (List.mem_of_getElem? (i := 146) rfl)), by decide +kernel⟩
set_option maxRecDepth 100000 in
theorem w_1471 : (Jvm.Cond.code ({ cls := "ScarArmy$Search", name := "mostRight", desc := "(I)I" } : Jvm.MethodName) prog_11_method_15_code (4 : Nat) (Option.some Jvm.ClassFile.FieldType.int)) ∈ pT := List.mem_filter.mpr ⟨(tb_5 (List.mem_of_getElem? (i := 147) rfl)), by decide +kernel⟩
set_option maxRecDepth 100000 in
theorem w_1472 : (Jvm.Cond.methodLink "ScarArmy$Search" (153 : Nat) ({ cls := "java/util/Arrays", name := "fill", desc := "([II)V" } : Jvm.MethodName)) ∈ pT := List.mem_filter.mpr ⟨(tb_5 (List.mem_of_getElem? (i := 148) rfl)), by decide +kernel⟩
set_option maxRecDepth 100000 in
theorem w_1473 : (Jvm.Cond.static ({ cls := "java/util/Arrays", name := "fill", desc := "([II)V" } : Jvm.MethodName)) ∈ pT := List.mem_filter.mpr ⟨(tb_5 (List.mem_of_getElem? (i := 149) rfl)), by decide +kernel⟩
set_option maxRecDepth 100000 in
theorem w_1474 : (Jvm.Cond.code ({ cls := "java/util/Arrays", name := "fill", desc := "([II)V" } : Jvm.MethodName) prog_34_method_103_code (4 : Nat) (Option.none : Option Jvm.ClassFile.FieldType)) ∈ pT := List.mem_filter.mpr ⟨(tb_5 (List.mem_of_getElem? (i := 150) rfl)), by decide +kernel⟩
set_option maxRecDepth 100000 in
theorem w_1475 : (Jvm.Cond.methodLink "ScarArmy$Search" (159 : Nat) ({ cls := "ScarArmy$Search", name := "findMan", desc := "(I)Z" } : Jvm.MethodName)) ∈ pT := List.mem_filter.mpr ⟨(tb_5 (List.mem_of_getElem? (i := 151) rfl)), by decide +kernel⟩
set_option maxRecDepth 100000 in
theorem w_1477 : (Jvm.Cond.instanceMethod ({ cls := "ScarArmy$Search", name := "findMan", desc := "(I)Z" } : Jvm.MethodName)) ∈ pT := List.mem_filter.mpr ⟨(tb_5 (List.mem_of_getElem? (i := 153) rfl)), by decide +kernel⟩
set_option maxRecDepth 100000 in
theorem w_1478 : (Jvm.Cond.code ({ cls := "ScarArmy$Search", name := "findMan", desc := "(I)Z" } : Jvm.MethodName) prog_11_method_16_code (3 : Nat) (Option.some Jvm.ClassFile.FieldType.boolean)) ∈ pT := List.mem_filter.mpr ⟨(tb_5 (List.mem_of_getElem? (i := 154) rfl)), by decide +kernel⟩
set_option maxRecDepth 100000 in
theorem w_1485 : (Jvm.Cond.code ({ cls := "ScarArmy", name := "turn", desc := "(IIII)I" } : Jvm.MethodName) prog_1_method_28_code (6 : Nat) (Option.some Jvm.ClassFile.FieldType.int)) ∈ pT := List.mem_filter.mpr ⟨(tb_5 (List.mem_of_getElem? (i := 161) rfl)), by decide +kernel⟩
set_option maxRecDepth 100000 in
theorem w_1487 : (Jvm.Cond.methodLink "ScarArmy" (355 : Nat) ({ cls := "ScarArmy$Men", name := "all", desc := "()I" } : Jvm.MethodName)) ∈ pT := List.mem_filter.mpr ⟨(tb_5 (List.mem_of_getElem? (i := 163) rfl)), by decide +kernel⟩
set_option maxRecDepth 100000 in
theorem w_1488 : (Jvm.Cond.methodLink "ScarArmy" (356 : Nat) ({ cls := "ScarArmy$Men", name := "inTurn", desc := "(III)I" } : Jvm.MethodName)) ∈ pT := List.mem_filter.mpr ⟨(tb_5 (List.mem_of_getElem? (i := 164) rfl)), by decide +kernel⟩
set_option maxRecDepth 100000 in
theorem w_1489 : (Jvm.Cond.instanceMethod ({ cls := "ScarArmy$Men", name := "inTurn", desc := "(III)I" } : Jvm.MethodName)) ∈ pT := List.mem_filter.mpr ⟨(tb_5 (List.mem_of_getElem? (i := 165) rfl)), by decide +kernel⟩
set_option maxRecDepth 100000 in
theorem w_1490 : (Jvm.Cond.selects "ScarArmy$Men" ({ cls := "ScarArmy$Men", name := "inTurn", desc := "(III)I" } : Jvm.MethodName) ({ cls := "ScarArmy$Men", name := "inTurn", desc := "(III)I" } : Jvm.MethodName)) ∈ pT := List.mem_filter.mpr ⟨(tb_5 (List.mem_of_getElem? (i := 166) rfl)), by decide +kernel⟩
set_option maxRecDepth 100000 in
theorem w_1491 : (Jvm.Cond.code ({ cls := "ScarArmy$Men", name := "inTurn", desc := "(III)I" } : Jvm.MethodName) prog_9_method_15_code (7 : Nat) (Option.some Jvm.ClassFile.FieldType.int)) ∈ pT := List.mem_filter.mpr ⟨(tb_5 (List.mem_of_getElem? (i := 167) rfl)), by decide +kernel⟩
set_option maxRecDepth 100000 in
theorem w_1492 : (Jvm.Cond.methodLink "ScarArmy$Men" (45 : Nat) ({ cls := "java/lang/Integer", name := "bitCount", desc := "(I)I" } : Jvm.MethodName)) ∈ pT := List.mem_filter.mpr ⟨(tb_5 (List.mem_of_getElem? (i := 168) rfl)), by decide +kernel⟩
set_option maxRecDepth 100000 in
theorem w_1493 : (Jvm.Cond.methodLink "ScarArmy" (360 : Nat) ({ cls := "ScarArmy$Men", name := "turnsHad", desc := "(IIII)I" } : Jvm.MethodName)) ∈ pT := List.mem_filter.mpr ⟨(tb_5 (List.mem_of_getElem? (i := 169) rfl)), by decide +kernel⟩
set_option maxRecDepth 100000 in
theorem w_1494 : (Jvm.Cond.instanceMethod ({ cls := "ScarArmy$Men", name := "turnsHad", desc := "(IIII)I" } : Jvm.MethodName)) ∈ pT := List.mem_filter.mpr ⟨(tb_5 (List.mem_of_getElem? (i := 170) rfl)), by decide +kernel⟩
set_option maxRecDepth 100000 in
theorem w_1495 : (Jvm.Cond.selects "ScarArmy$Men" ({ cls := "ScarArmy$Men", name := "turnsHad", desc := "(IIII)I" } : Jvm.MethodName) ({ cls := "ScarArmy$Men", name := "turnsHad", desc := "(IIII)I" } : Jvm.MethodName)) ∈ pT := List.mem_filter.mpr ⟨(tb_5 (List.mem_of_getElem? (i := 171) rfl)), by decide +kernel⟩
set_option maxRecDepth 100000 in
theorem w_1496 : (Jvm.Cond.code ({ cls := "ScarArmy$Men", name := "turnsHad", desc := "(IIII)I" } : Jvm.MethodName) prog_9_method_16_code (8 : Nat) (Option.some Jvm.ClassFile.FieldType.int)) ∈ pT := List.mem_filter.mpr ⟨(tb_5 (List.mem_of_getElem? (i := 172) rfl)), by decide +kernel⟩
set_option maxRecDepth 100000 in
theorem w_1497 : (Jvm.Cond.methodLink "ScarArmy$Men" (50 : Nat) ({ cls := "java/lang/Math", name := "max", desc := "(II)I" } : Jvm.MethodName)) ∈ pT := List.mem_filter.mpr ⟨(tb_5 (List.mem_of_getElem? (i := 173) rfl)), by decide +kernel⟩
set_option maxRecDepth 100000 in
theorem w_1504 : (Jvm.Cond.code ({ cls := "ScarArmy", name := "polished", desc := "(I)I" } : Jvm.MethodName) prog_1_method_29_code (2 : Nat) (Option.some Jvm.ClassFile.FieldType.int)) ∈ pT := List.mem_filter.mpr ⟨(tb_5 (List.mem_of_getElem? (i := 180) rfl)), by decide +kernel⟩
set_option maxRecDepth 100000 in
theorem w_1505 : (Jvm.Cond.methodLink "ScarArmy" (364 : Nat) ({ cls := "ScarArmy$Scars", name := "toldBy", desc := "(I)I" } : Jvm.MethodName)) ∈ pT := List.mem_filter.mpr ⟨(tb_5 (List.mem_of_getElem? (i := 181) rfl)), by decide +kernel⟩
set_option maxRecDepth 100000 in
theorem w_1506 : (Jvm.Cond.instanceMethod ({ cls := "ScarArmy$Scars", name := "toldBy", desc := "(I)I" } : Jvm.MethodName)) ∈ pT := List.mem_filter.mpr ⟨(tb_5 (List.mem_of_getElem? (i := 182) rfl)), by decide +kernel⟩
set_option maxRecDepth 100000 in
theorem w_1507 : (Jvm.Cond.selects "ScarArmy$Scars" ({ cls := "ScarArmy$Scars", name := "toldBy", desc := "(I)I" } : Jvm.MethodName) ({ cls := "ScarArmy$Scars", name := "toldBy", desc := "(I)I" } : Jvm.MethodName)) ∈ pT := List.mem_filter.mpr ⟨(tb_5 (List.mem_of_getElem? (i := 183) rfl)), by decide +kernel⟩
set_option maxRecDepth 100000 in
theorem w_1508 : (Jvm.Cond.code ({ cls := "ScarArmy$Scars", name := "toldBy", desc := "(I)I" } : Jvm.MethodName) prog_10_method_6_code (4 : Nat) (Option.some Jvm.ClassFile.FieldType.int)) ∈ pT := List.mem_filter.mpr ⟨(tb_5 (List.mem_of_getElem? (i := 184) rfl)), by decide +kernel⟩
set_option maxRecDepth 100000 in
theorem w_1515 : (Jvm.Cond.code ({ cls := "ScarArmy", name := "hands", desc := "(II)I" } : Jvm.MethodName) prog_1_method_31_code (3 : Nat) (Option.some Jvm.ClassFile.FieldType.int)) ∈ pT := List.mem_filter.mpr ⟨(tb_5 (List.mem_of_getElem? (i := 191) rfl)), by decide +kernel⟩
set_option maxRecDepth 100000 in
theorem w_1517 : (Jvm.Cond.methodLink "ScarArmy" (377 : Nat) ({ cls := "ScarArmy$Log", name := "giver", desc := "(II)I" } : Jvm.MethodName)) ∈ pT := List.mem_filter.mpr ⟨(tb_5 (List.mem_of_getElem? (i := 193) rfl)), by decide +kernel⟩
set_option maxRecDepth 100000 in
theorem w_1518 : (Jvm.Cond.instanceMethod ({ cls := "ScarArmy$Log", name := "giver", desc := "(II)I" } : Jvm.MethodName)) ∈ pT := List.mem_filter.mpr ⟨(tb_5 (List.mem_of_getElem? (i := 194) rfl)), by decide +kernel⟩
set_option maxRecDepth 100000 in
theorem w_1519 : (Jvm.Cond.selects "ScarArmy$Log" ({ cls := "ScarArmy$Log", name := "giver", desc := "(II)I" } : Jvm.MethodName) ({ cls := "ScarArmy$Log", name := "giver", desc := "(II)I" } : Jvm.MethodName)) ∈ pT := List.mem_filter.mpr ⟨(tb_5 (List.mem_of_getElem? (i := 195) rfl)), by decide +kernel⟩
set_option maxRecDepth 100000 in
theorem w_1520 : (Jvm.Cond.code ({ cls := "ScarArmy$Log", name := "giver", desc := "(II)I" } : Jvm.MethodName) prog_7_method_6_code (5 : Nat) (Option.some Jvm.ClassFile.FieldType.int)) ∈ pT := List.mem_filter.mpr ⟨(tb_5 (List.mem_of_getElem? (i := 196) rfl)), by decide +kernel⟩
set_option maxRecDepth 100000 in
theorem w_1521 : (Jvm.Cond.methodLink "ScarArmy$Log" (34 : Nat) ({ cls := "ScarArmy$Log", name := "cell", desc := "(II)I" } : Jvm.MethodName)) ∈ pT := List.mem_filter.mpr ⟨(tb_5 (List.mem_of_getElem? (i := 197) rfl)), by decide +kernel⟩
set_option maxRecDepth 100000 in
theorem w_1522 : (Jvm.Cond.instanceMethod ({ cls := "ScarArmy$Log", name := "cell", desc := "(II)I" } : Jvm.MethodName)) ∈ pT := List.mem_filter.mpr ⟨(tb_5 (List.mem_of_getElem? (i := 198) rfl)), by decide +kernel⟩
set_option maxRecDepth 100000 in
theorem w_1523 : (Jvm.Cond.selects "ScarArmy$Log" ({ cls := "ScarArmy$Log", name := "cell", desc := "(II)I" } : Jvm.MethodName) ({ cls := "ScarArmy$Log", name := "cell", desc := "(II)I" } : Jvm.MethodName)) ∈ pT := List.mem_filter.mpr ⟨(tb_5 (List.mem_of_getElem? (i := 199) rfl)), by decide +kernel⟩
set_option maxRecDepth 100000 in
theorem w_1524 : (Jvm.Cond.code ({ cls := "ScarArmy$Log", name := "cell", desc := "(II)I" } : Jvm.MethodName) prog_7_method_4_code (3 : Nat) (Option.some Jvm.ClassFile.FieldType.int)) ∈ pT := List.mem_filter.mpr ⟨(tb_5 (List.mem_of_getElem? (i := 200) rfl)), by decide +kernel⟩
set_option maxRecDepth 100000 in
theorem w_1531 : (Jvm.Cond.code ({ cls := "ScarArmy", name := "after", desc := "(II)I" } : Jvm.MethodName) prog_1_method_33_code (3 : Nat) (Option.some Jvm.ClassFile.FieldType.int)) ∈ pT := List.mem_filter.mpr ⟨(tb_5 (List.mem_of_getElem? (i := 207) rfl)), by decide +kernel⟩
set_option maxRecDepth 100000 in
theorem w_1538 : (Jvm.Cond.code ({ cls := "ScarArmy", name := "shared", desc := "(II)I" } : Jvm.MethodName) prog_1_method_34_code (3 : Nat) (Option.some Jvm.ClassFile.FieldType.int)) ∈ pT := List.mem_filter.mpr ⟨(tb_5 (List.mem_of_getElem? (i := 214) rfl)), by decide +kernel⟩
set_option maxRecDepth 100000 in
theorem w_1539 : (Jvm.Cond.methodLink "ScarArmy" (385 : Nat) ({ cls := "ScarArmy$Scars", name := "battlesCutOn", desc := "(I)I" } : Jvm.MethodName)) ∈ pT := List.mem_filter.mpr ⟨(tb_5 (List.mem_of_getElem? (i := 215) rfl)), by decide +kernel⟩
set_option maxRecDepth 100000 in
theorem w_1540 : (Jvm.Cond.instanceMethod ({ cls := "ScarArmy$Scars", name := "battlesCutOn", desc := "(I)I" } : Jvm.MethodName)) ∈ pT := List.mem_filter.mpr ⟨(tb_5 (List.mem_of_getElem? (i := 216) rfl)), by decide +kernel⟩
set_option maxRecDepth 100000 in
theorem w_1541 : (Jvm.Cond.selects "ScarArmy$Scars" ({ cls := "ScarArmy$Scars", name := "battlesCutOn", desc := "(I)I" } : Jvm.MethodName) ({ cls := "ScarArmy$Scars", name := "battlesCutOn", desc := "(I)I" } : Jvm.MethodName)) ∈ pT := List.mem_filter.mpr ⟨(tb_5 (List.mem_of_getElem? (i := 217) rfl)), by decide +kernel⟩
set_option maxRecDepth 100000 in
theorem w_1542 : (Jvm.Cond.code ({ cls := "ScarArmy$Scars", name := "battlesCutOn", desc := "(I)I" } : Jvm.MethodName) prog_10_method_9_code (2 : Nat) (Option.some Jvm.ClassFile.FieldType.int)) ∈ pT := List.mem_filter.mpr ⟨(tb_5 (List.mem_of_getElem? (i := 218) rfl)), by decide +kernel⟩
set_option maxRecDepth 100000 in
theorem w_1549 : (Jvm.Cond.code ({ cls := "ScarArmy", name := "trial", desc := "(IZ)I" } : Jvm.MethodName) prog_1_method_40_code (3 : Nat) (Option.some Jvm.ClassFile.FieldType.int)) ∈ pT := List.mem_filter.mpr ⟨(tb_5 (List.mem_of_getElem? (i := 225) rfl)), by decide +kernel⟩
set_option maxRecDepth 100000 in
theorem w_1556 : (Jvm.Cond.code ({ cls := "ScarArmy", name := "span", desc := "(IZ)I" } : Jvm.MethodName) prog_1_method_41_code (7 : Nat) (Option.some Jvm.ClassFile.FieldType.int)) ∈ pT := List.mem_filter.mpr ⟨(tb_5 (List.mem_of_getElem? (i := 232) rfl)), by decide +kernel⟩
set_option maxRecDepth 100000 in
theorem w_1557 : (Jvm.Cond.methodLink "ScarArmy" (407 : Nat) ({ cls := "java/lang/Math", name := "min", desc := "(II)I" } : Jvm.MethodName)) ∈ pT := List.mem_filter.mpr ⟨(tb_5 (List.mem_of_getElem? (i := 233) rfl)), by decide +kernel⟩
set_option maxRecDepth 100000 in
theorem w_1558 : (Jvm.Cond.methodLink "ScarArmy" (412 : Nat) ({ cls := "java/lang/Math", name := "max", desc := "(II)I" } : Jvm.MethodName)) ∈ pT := List.mem_filter.mpr ⟨(tb_5 (List.mem_of_getElem? (i := 234) rfl)), by decide +kernel⟩
set_option maxRecDepth 100000 in
theorem w_1565 : (Jvm.Cond.code ({ cls := "ScarArmy", name := "led", desc := "(IZ)I" } : Jvm.MethodName) prog_1_method_42_code (3 : Nat) (Option.some Jvm.ClassFile.FieldType.int)) ∈ pT := List.mem_filter.mpr ⟨(tb_6 (List.mem_of_getElem? (i := 1) rfl)), by decide +kernel⟩
set_option maxRecDepth 100000 in
theorem w_1566 : (Jvm.Cond.methodLink "ScarArmy" (415 : Nat) ({ cls := "ScarArmy$Log", name := "timesOf", desc := "(I)I" } : Jvm.MethodName)) ∈ pT := List.mem_filter.mpr ⟨(tb_6 (List.mem_of_getElem? (i := 2) rfl)), by decide +kernel⟩
set_option maxRecDepth 100000 in
theorem w_1573 : (Jvm.Cond.code ({ cls := "ScarArmy", name := "log", desc := "(II)I" } : Jvm.MethodName) prog_1_method_43_code (3 : Nat) (Option.some Jvm.ClassFile.FieldType.int)) ∈ pT := List.mem_filter.mpr ⟨(tb_6 (List.mem_of_getElem? (i := 9) rfl)), by decide +kernel⟩
set_option maxRecDepth 100000 in
theorem w_1575 : (Jvm.Cond.methodLink "ScarArmy" (420 : Nat) ({ cls := "ScarArmy$Log", name := "cell", desc := "(II)I" } : Jvm.MethodName)) ∈ pT := List.mem_filter.mpr ⟨(tb_6 (List.mem_of_getElem? (i := 11) rfl)), by decide +kernel⟩
set_option maxRecDepth 100000 in
theorem w_1579 : (Jvm.Cond.code ({ cls := "ScarArmyModel", name := "thrown", desc := "()I" } : Jvm.MethodName) prog_14_method_1_code (1 : Nat) (Option.some Jvm.ClassFile.FieldType.int)) ∈ pT := List.mem_filter.mpr ⟨(tb_6 (List.mem_of_getElem? (i := 15) rfl)), by decide +kernel⟩
set_option maxRecDepth 100000 in
theorem w_1584 : (Jvm.Cond.code ({ cls := "ScarArmyModel", name := "<init>", desc := "()V" } : Jvm.MethodName) prog_14_method_5_code (1 : Nat) (Option.none : Option Jvm.ClassFile.FieldType)) ∈ pT := List.mem_filter.mpr ⟨(tb_6 (List.mem_of_getElem? (i := 20) rfl)), by decide +kernel⟩
set_option maxRecDepth 100000 in
theorem w_1585 : (Jvm.Cond.methodLink "ScarArmyModel" (7 : Nat) ({ cls := "java/lang/Object", name := "<init>", desc := "()V" } : Jvm.MethodName)) ∈ pT := List.mem_filter.mpr ⟨(tb_6 (List.mem_of_getElem? (i := 21) rfl)), by decide +kernel⟩
set_option maxRecDepth 100000 in
theorem w_1586 : (Jvm.Cond.fieldLink "ScarArmyModel" (3 : Nat) "ScarArmyModel" "thrown" "I") ∈ pT := List.mem_filter.mpr ⟨(tb_6 (List.mem_of_getElem? (i := 22) rfl)), by decide +kernel⟩
set_option maxRecDepth 100000 in
theorem w_1587 : (Jvm.Cond.fieldLink "ScarArmyModel" (13 : Nat) "ScarArmyModel" "world" "[I") ∈ pT := List.mem_filter.mpr ⟨(tb_6 (List.mem_of_getElem? (i := 23) rfl)), by decide +kernel⟩
set_option maxRecDepth 100000 in
theorem w_1588 : (Jvm.Cond.fieldLink "ScarArmyModel" (17 : Nat) "ScarArmyModel" "image" "[I") ∈ pT := List.mem_filter.mpr ⟨(tb_6 (List.mem_of_getElem? (i := 24) rfl)), by decide +kernel⟩
set_option maxRecDepth 100000 in
theorem w_1589 : (Jvm.Cond.fieldLink "ScarArmyModel" (20 : Nat) "ScarArmyModel" "before" "[I") ∈ pT := List.mem_filter.mpr ⟨(tb_6 (List.mem_of_getElem? (i := 25) rfl)), by decide +kernel⟩
set_option maxRecDepth 100000 in
theorem w_1590 : (Jvm.Cond.fieldLink "ScarArmyModel" (23 : Nat) "ScarArmyModel" "trial" "[I") ∈ pT := List.mem_filter.mpr ⟨(tb_6 (List.mem_of_getElem? (i := 26) rfl)), by decide +kernel⟩
set_option maxRecDepth 100000 in
theorem w_1591 : (Jvm.Cond.fieldLink "ScarArmyModel" (26 : Nat) "ScarArmyModel" "acts" "[I") ∈ pT := List.mem_filter.mpr ⟨(tb_6 (List.mem_of_getElem? (i := 27) rfl)), by decide +kernel⟩
set_option maxRecDepth 100000 in
theorem w_1592 : (Jvm.Cond.fieldLink "ScarArmyModel" (54 : Nat) "ScarArmyModel" "hasImage" "Z") ∈ pT := List.mem_filter.mpr ⟨(tb_6 (List.mem_of_getElem? (i := 28) rfl)), by decide +kernel⟩
set_option maxRecDepth 100000 in
theorem w_1593 : (Jvm.Cond.fieldLink "ScarArmyModel" (58 : Nat) "ScarArmyModel" "remembered" "I") ∈ pT := List.mem_filter.mpr ⟨(tb_6 (List.mem_of_getElem? (i := 29) rfl)), by decide +kernel⟩
set_option maxRecDepth 100000 in
theorem w_1594 : (Jvm.Cond.fieldLink "ScarArmyModel" (29 : Nat) "ScarArmyModel" "tape" "[B") ∈ pT := List.mem_filter.mpr ⟨(tb_6 (List.mem_of_getElem? (i := 30) rfl)), by decide +kernel⟩
set_option maxRecDepth 100000 in
theorem w_1595 : (Jvm.Cond.fieldLink "ScarArmyModel" (86 : Nat) "ScarArmyModel" "taped" "I") ∈ pT := List.mem_filter.mpr ⟨(tb_6 (List.mem_of_getElem? (i := 31) rfl)), by decide +kernel⟩
set_option maxRecDepth 100000 in
theorem w_1596 : (Jvm.Cond.fieldLink "ScarArmyModel" (89 : Nat) "ScarArmyModel" "point" "I") ∈ pT := List.mem_filter.mpr ⟨(tb_6 (List.mem_of_getElem? (i := 32) rfl)), by decide +kernel⟩
set_option maxRecDepth 100000 in
theorem w_1597 : (Jvm.Cond.fieldLink "ScarArmyModel" (92 : Nat) "ScarArmyModel" "end" "I") ∈ pT := List.mem_filter.mpr ⟨(tb_6 (List.mem_of_getElem? (i := 33) rfl)), by decide +kernel⟩
set_option maxRecDepth 100000 in
theorem w_1598 : (Jvm.Cond.fieldLink "ScarArmyModel" (99 : Nat) "ScarArmyModel" "begin" "I") ∈ pT := List.mem_filter.mpr ⟨(tb_6 (List.mem_of_getElem? (i := 34) rfl)), by decide +kernel⟩
set_option maxRecDepth 100000 in
theorem w_1599 : (Jvm.Cond.fieldLink "ScarArmyModel" (214 : Nat) "ScarArmyModel" "deep" "I") ∈ pT := List.mem_filter.mpr ⟨(tb_6 (List.mem_of_getElem? (i := 35) rfl)), by decide +kernel⟩
set_option maxRecDepth 100000 in
theorem w_1600 : (Jvm.Cond.fieldLink "ScarArmyModel" (33 : Nat) "ScarArmyModel" "faultAt" "I") ∈ pT := List.mem_filter.mpr ⟨(tb_6 (List.mem_of_getElem? (i := 36) rfl)), by decide +kernel⟩
set_option maxRecDepth 100000 in
theorem w_1601 : (Jvm.Cond.fieldLink "ScarArmyModel" (36 : Nat) "ScarArmyModel" "five" "[I") ∈ pT := List.mem_filter.mpr ⟨(tb_6 (List.mem_of_getElem? (i := 37) rfl)), by decide +kernel⟩
set_option maxRecDepth 100000 in
theorem w_1602 : (Jvm.Cond.fieldLink "ScarArmyModel" (186 : Nat) "ScarArmyModel" "steps" "I") ∈ pT := List.mem_filter.mpr ⟨(tb_6 (List.mem_of_getElem? (i := 38) rfl)), by decide +kernel⟩
set_option maxRecDepth 100000 in
theorem w_1603 : (Jvm.Cond.fieldLink "ScarArmyModel" (39 : Nat) "ScarArmyModel" "value" "[I") ∈ pT := List.mem_filter.mpr ⟨(tb_6 (List.mem_of_getElem? (i := 39) rfl)), by decide +kernel⟩
set_option maxRecDepth 100000 in
theorem w_1604 : (Jvm.Cond.fieldLink "ScarArmyModel" (42 : Nat) "ScarArmyModel" "bought" "[I") ∈ pT := List.mem_filter.mpr ⟨(tb_6 (List.mem_of_getElem? (i := 40) rfl)), by decide +kernel⟩
set_option maxRecDepth 100000 in
theorem w_1605 : (Jvm.Cond.fieldLink "ScarArmyModel" (45 : Nat) "ScarArmyModel" "worths" "[I") ∈ pT := List.mem_filter.mpr ⟨(tb_6 (List.mem_of_getElem? (i := 41) rfl)), by decide +kernel⟩
set_option maxRecDepth 100000 in
theorem w_1606 : (Jvm.Cond.fieldLink "ScarArmyModel" (48 : Nat) "ScarArmyModel" "prices" "[I") ∈ pT := List.mem_filter.mpr ⟨(tb_6 (List.mem_of_getElem? (i := 42) rfl)), by decide +kernel⟩
set_option maxRecDepth 100000 in
theorem w_1607 : (Jvm.Cond.fieldLink "ScarArmyModel" (51 : Nat) "ScarArmyModel" "right" "[I") ∈ pT := List.mem_filter.mpr ⟨(tb_6 (List.mem_of_getElem? (i := 43) rfl)), by decide +kernel⟩
set_option maxRecDepth 100000 in
theorem w_1608 : (Jvm.Cond.fieldLink "ScarArmyModel" (462 : Nat) "ScarArmyModel" "paid" "I") ∈ pT := List.mem_filter.mpr ⟨(tb_6 (List.mem_of_getElem? (i := 44) rfl)), by decide +kernel⟩
set_option maxRecDepth 100000 in
theorem w_1659 : (Jvm.Cond.code ({ cls := "ScarArmyModel", name := "image", desc := "()V" } : Jvm.MethodName) prog_14_method_6_code (2 : Nat) (Option.none : Option Jvm.ClassFile.FieldType)) ∈ pT := List.mem_filter.mpr ⟨(tb_6 (List.mem_of_getElem? (i := 95) rfl)), by decide +kernel⟩
set_option maxRecDepth 100000 in
theorem w_1663 : (Jvm.Cond.code ({ cls := "ScarArmyModel", name := "back", desc := "()Z" } : Jvm.MethodName) prog_14_method_7_code (2 : Nat) (Option.some Jvm.ClassFile.FieldType.boolean)) ∈ pT := List.mem_filter.mpr ⟨(tb_6 (List.mem_of_getElem? (i := 99) rfl)), by decide +kernel⟩
set_option maxRecDepth 100000 in
theorem w_1667 : (Jvm.Cond.code ({ cls := "ScarArmyModel", name := "undo", desc := "()Z" } : Jvm.MethodName) prog_14_method_9_code (2 : Nat) (Option.some Jvm.ClassFile.FieldType.boolean)) ∈ pT := List.mem_filter.mpr ⟨(tb_6 (List.mem_of_getElem? (i := 103) rfl)), by decide +kernel⟩
set_option maxRecDepth 100000 in
theorem w_1671 : (Jvm.Cond.code ({ cls := "ScarArmyModel", name := "feed", desc := "(IIIII)I" } : Jvm.MethodName) prog_14_method_23_code (7 : Nat) (Option.some Jvm.ClassFile.FieldType.int)) ∈ pT := List.mem_filter.mpr ⟨(tb_6 (List.mem_of_getElem? (i := 107) rfl)), by decide +kernel⟩
set_option maxRecDepth 100000 in
theorem w_1675 : (Jvm.Cond.code ({ cls := "ScarArmyModel", name := "end", desc := "(I)Z" } : Jvm.MethodName) prog_14_method_24_code (2 : Nat) (Option.some Jvm.ClassFile.FieldType.boolean)) ∈ pT := List.mem_filter.mpr ⟨(tb_6 (List.mem_of_getElem? (i := 111) rfl)), by decide +kernel⟩
set_option maxRecDepth 100000 in
theorem w_1679 : (Jvm.Cond.code ({ cls := "ScarArmyModel", name := "fault", desc := "()I" } : Jvm.MethodName) prog_14_method_35_code (1 : Nat) (Option.some Jvm.ClassFile.FieldType.int)) ∈ pT := List.mem_filter.mpr ⟨(tb_6 (List.mem_of_getElem? (i := 115) rfl)), by decide +kernel⟩
set_option maxRecDepth 100000 in
theorem w_1683 : (Jvm.Cond.code ({ cls := "ScarArmyModel", name := "army", desc := "()I" } : Jvm.MethodName) prog_14_method_55_code (3 : Nat) (Option.some Jvm.ClassFile.FieldType.int)) ∈ pT := List.mem_filter.mpr ⟨(tb_6 (List.mem_of_getElem? (i := 119) rfl)), by decide +kernel⟩
set_option maxRecDepth 100000 in
theorem w_1684 : (Jvm.Cond.methodLink "ScarArmyModel" (259 : Nat) ({ cls := "ScarArmyModel", name := "readAll", desc := "(Z)I" } : Jvm.MethodName)) ∈ pT := List.mem_filter.mpr ⟨(tb_6 (List.mem_of_getElem? (i := 120) rfl)), by decide +kernel⟩
set_option maxRecDepth 100000 in
theorem w_1686 : (Jvm.Cond.instanceMethod ({ cls := "ScarArmyModel", name := "readAll", desc := "(Z)I" } : Jvm.MethodName)) ∈ pT := List.mem_filter.mpr ⟨(tb_6 (List.mem_of_getElem? (i := 122) rfl)), by decide +kernel⟩
set_option maxRecDepth 100000 in
theorem w_1687 : (Jvm.Cond.code ({ cls := "ScarArmyModel", name := "readAll", desc := "(Z)I" } : Jvm.MethodName) prog_14_method_54_code (3 : Nat) (Option.some Jvm.ClassFile.FieldType.int)) ∈ pT := List.mem_filter.mpr ⟨(tb_6 (List.mem_of_getElem? (i := 123) rfl)), by decide +kernel⟩
set_option maxRecDepth 100000 in
theorem w_1688 : (Jvm.Cond.methodLink "ScarArmyModel" (252 : Nat) ({ cls := "ScarArmyModel", name := "uses", desc := "()V" } : Jvm.MethodName)) ∈ pT := List.mem_filter.mpr ⟨(tb_6 (List.mem_of_getElem? (i := 124) rfl)), by decide +kernel⟩
set_option maxRecDepth 100000 in
theorem w_1690 : (Jvm.Cond.instanceMethod ({ cls := "ScarArmyModel", name := "uses", desc := "()V" } : Jvm.MethodName)) ∈ pT := List.mem_filter.mpr ⟨(tb_6 (List.mem_of_getElem? (i := 126) rfl)), by decide +kernel⟩
set_option maxRecDepth 100000 in
theorem w_1691 : (Jvm.Cond.code ({ cls := "ScarArmyModel", name := "uses", desc := "()V" } : Jvm.MethodName) prog_14_method_36_code (1 : Nat) (Option.none : Option Jvm.ClassFile.FieldType)) ∈ pT := List.mem_filter.mpr ⟨(tb_6 (List.mem_of_getElem? (i := 127) rfl)), by decide +kernel⟩
set_option maxRecDepth 100000 in
theorem w_1692 : (Jvm.Cond.methodLink "ScarArmyModel" (102 : Nat) ({ cls := "ScarArmyModel", name := "blanks", desc := "()V" } : Jvm.MethodName)) ∈ pT := List.mem_filter.mpr ⟨(tb_6 (List.mem_of_getElem? (i := 128) rfl)), by decide +kernel⟩
set_option maxRecDepth 100000 in
theorem w_1694 : (Jvm.Cond.instanceMethod ({ cls := "ScarArmyModel", name := "blanks", desc := "()V" } : Jvm.MethodName)) ∈ pT := List.mem_filter.mpr ⟨(tb_6 (List.mem_of_getElem? (i := 130) rfl)), by decide +kernel⟩
set_option maxRecDepth 100000 in
theorem w_1695 : (Jvm.Cond.code ({ cls := "ScarArmyModel", name := "blanks", desc := "()V" } : Jvm.MethodName) prog_14_method_26_code (1 : Nat) (Option.none : Option Jvm.ClassFile.FieldType)) ∈ pT := List.mem_filter.mpr ⟨(tb_6 (List.mem_of_getElem? (i := 131) rfl)), by decide +kernel⟩
set_option maxRecDepth 100000 in
theorem w_1696 : (Jvm.Cond.methodLink "ScarArmyModel" (95 : Nat) ({ cls := "ScarArmyModel", name := "isAt", desc := "(II)Z" } : Jvm.MethodName)) ∈ pT := List.mem_filter.mpr ⟨(tb_6 (List.mem_of_getElem? (i := 132) rfl)), by decide +kernel⟩
set_option maxRecDepth 100000 in
theorem w_1698 : (Jvm.Cond.instanceMethod ({ cls := "ScarArmyModel", name := "isAt", desc := "(II)Z" } : Jvm.MethodName)) ∈ pT := List.mem_filter.mpr ⟨(tb_6 (List.mem_of_getElem? (i := 134) rfl)), by decide +kernel⟩
set_option maxRecDepth 100000 in
theorem w_1699 : (Jvm.Cond.code ({ cls := "ScarArmyModel", name := "isAt", desc := "(II)Z" } : Jvm.MethodName) prog_14_method_25_code (3 : Nat) (Option.some Jvm.ClassFile.FieldType.boolean)) ∈ pT := List.mem_filter.mpr ⟨(tb_6 (List.mem_of_getElem? (i := 135) rfl)), by decide +kernel⟩
set_option maxRecDepth 100000 in
theorem w_1700 : (Jvm.Cond.methodLink "ScarArmyModel" (255 : Nat) ({ cls := "ScarArmyModel", name := "readLine", desc := "(ZI)Z" } : Jvm.MethodName)) ∈ pT := List.mem_filter.mpr ⟨(tb_6 (List.mem_of_getElem? (i := 136) rfl)), by decide +kernel⟩
set_option maxRecDepth 100000 in
theorem w_1702 : (Jvm.Cond.instanceMethod ({ cls := "ScarArmyModel", name := "readLine", desc := "(ZI)Z" } : Jvm.MethodName)) ∈ pT := List.mem_filter.mpr ⟨(tb_6 (List.mem_of_getElem? (i := 138) rfl)), by decide +kernel⟩
set_option maxRecDepth 100000 in
theorem w_1703 : (Jvm.Cond.code ({ cls := "ScarArmyModel", name := "readLine", desc := "(ZI)Z" } : Jvm.MethodName) prog_14_method_53_code (3 : Nat) (Option.some Jvm.ClassFile.FieldType.boolean)) ∈ pT := List.mem_filter.mpr ⟨(tb_6 (List.mem_of_getElem? (i := 139) rfl)), by decide +kernel⟩
set_option maxRecDepth 100000 in
theorem w_1704 : (Jvm.Cond.methodLink "ScarArmyModel" (114 : Nat) ({ cls := "ScarArmyModel", name := "letters", desc := "()V" } : Jvm.MethodName)) ∈ pT := List.mem_filter.mpr ⟨(tb_6 (List.mem_of_getElem? (i := 140) rfl)), by decide +kernel⟩
set_option maxRecDepth 100000 in
theorem w_1706 : (Jvm.Cond.instanceMethod ({ cls := "ScarArmyModel", name := "letters", desc := "()V" } : Jvm.MethodName)) ∈ pT := List.mem_filter.mpr ⟨(tb_6 (List.mem_of_getElem? (i := 142) rfl)), by decide +kernel⟩
set_option maxRecDepth 100000 in
theorem w_1707 : (Jvm.Cond.code ({ cls := "ScarArmyModel", name := "letters", desc := "()V" } : Jvm.MethodName) prog_14_method_27_code (1 : Nat) (Option.none : Option Jvm.ClassFile.FieldType)) ∈ pT := List.mem_filter.mpr ⟨(tb_6 (List.mem_of_getElem? (i := 143) rfl)), by decide +kernel⟩
set_option maxRecDepth 100000 in
theorem w_1708 : (Jvm.Cond.methodLink "ScarArmyModel" (246 : Nat) ({ cls := "ScarArmyModel", name := "readArmyLine", desc := "()Z" } : Jvm.MethodName)) ∈ pT := List.mem_filter.mpr ⟨(tb_6 (List.mem_of_getElem? (i := 144) rfl)), by decide +kernel⟩
set_option maxRecDepth 100000 in
theorem w_1710 : (Jvm.Cond.instanceMethod ({ cls := "ScarArmyModel", name := "readArmyLine", desc := "()Z" } : Jvm.MethodName)) ∈ pT := List.mem_filter.mpr ⟨(tb_6 (List.mem_of_getElem? (i := 146) rfl)), by decide +kernel⟩
set_option maxRecDepth 100000 in
theorem w_1711 : (Jvm.Cond.code ({ cls := "ScarArmyModel", name := "readArmyLine", desc := "()Z" } : Jvm.MethodName) prog_14_method_44_code (2 : Nat) (Option.some Jvm.ClassFile.FieldType.boolean)) ∈ pT := List.mem_filter.mpr ⟨(tb_6 (List.mem_of_getElem? (i := 147) rfl)), by decide +kernel⟩
set_option maxRecDepth 100000 in
theorem w_1713 : (Jvm.Cond.methodLink "ScarArmyModel" (117 : Nat) ({ cls := "ScarArmyModel", name := "isWord", desc := "(Ljava/lang/String;)Z" } : Jvm.MethodName)) ∈ pT := List.mem_filter.mpr ⟨(tb_6 (List.mem_of_getElem? (i := 149) rfl)), by decide +kernel⟩
set_option maxRecDepth 100000 in
theorem w_1715 : (Jvm.Cond.instanceMethod ({ cls := "ScarArmyModel", name := "isWord", desc := "(Ljava/lang/String;)Z" } : Jvm.MethodName)) ∈ pT := List.mem_filter.mpr ⟨(tb_6 (List.mem_of_getElem? (i := 151) rfl)), by decide +kernel⟩
set_option maxRecDepth 100000 in
theorem w_1716 : (Jvm.Cond.code ({ cls := "ScarArmyModel", name := "isWord", desc := "(Ljava/lang/String;)Z" } : Jvm.MethodName) prog_14_method_28_code (4 : Nat) (Option.some Jvm.ClassFile.FieldType.boolean)) ∈ pT := List.mem_filter.mpr ⟨(tb_6 (List.mem_of_getElem? (i := 152) rfl)), by decide +kernel⟩
set_option maxRecDepth 100000 in
theorem w_1717 : (Jvm.Cond.methodLink "ScarArmyModel" (105 : Nat) ({ cls := "java/lang/String", name := "length", desc := "()I" } : Jvm.MethodName)) ∈ pT := List.mem_filter.mpr ⟨(tb_6 (List.mem_of_getElem? (i := 153) rfl)), by decide +kernel⟩
set_option maxRecDepth 100000 in
theorem w_1718 : (Jvm.Cond.methodLink "ScarArmyModel" (110 : Nat) ({ cls := "java/lang/String", name := "charAt", desc := "(I)C" } : Jvm.MethodName)) ∈ pT := List.mem_filter.mpr ⟨(tb_6 (List.mem_of_getElem? (i := 154) rfl)), by decide +kernel⟩
set_option maxRecDepth 100000 in
theorem w_1719 : (Jvm.Cond.methodLink "ScarArmyModel" (161 : Nat) ({ cls := "ScarArmyModel", name := "readBattle", desc := "()Z" } : Jvm.MethodName)) ∈ pT := List.mem_filter.mpr ⟨(tb_6 (List.mem_of_getElem? (i := 155) rfl)), by decide +kernel⟩
set_option maxRecDepth 100000 in
theorem w_1721 : (Jvm.Cond.instanceMethod ({ cls := "ScarArmyModel", name := "readBattle", desc := "()Z" } : Jvm.MethodName)) ∈ pT := List.mem_filter.mpr ⟨(tb_6 (List.mem_of_getElem? (i := 157) rfl)), by decide +kernel⟩
set_option maxRecDepth 100000 in
theorem w_1722 : (Jvm.Cond.code ({ cls := "ScarArmyModel", name := "readBattle", desc := "()Z" } : Jvm.MethodName) prog_14_method_38_code (4 : Nat) (Option.some Jvm.ClassFile.FieldType.boolean)) ∈ pT := List.mem_filter.mpr ⟨(tb_6 (List.mem_of_getElem? (i := 158) rfl)), by decide +kernel⟩
set_option maxRecDepth 100000 in
theorem w_1723 : (Jvm.Cond.methodLink "ScarArmyModel" (71 : Nat) ({ cls := "ScarArmyModel", name := "battles", desc := "()I" } : Jvm.MethodName)) ∈ pT := List.mem_filter.mpr ⟨(tb_6 (List.mem_of_getElem? (i := 159) rfl)), by decide +kernel⟩
set_option maxRecDepth 100000 in
theorem w_1725 : (Jvm.Cond.instanceMethod ({ cls := "ScarArmyModel", name := "battles", desc := "()I" } : Jvm.MethodName)) ∈ pT := List.mem_filter.mpr ⟨(tb_6 (List.mem_of_getElem? (i := 161) rfl)), by decide +kernel⟩
set_option maxRecDepth 100000 in
theorem w_1726 : (Jvm.Cond.code ({ cls := "ScarArmyModel", name := "battles", desc := "()I" } : Jvm.MethodName) prog_14_method_10_code (1 : Nat) (Option.some Jvm.ClassFile.FieldType.int)) ∈ pT := List.mem_filter.mpr ⟨(tb_6 (List.mem_of_getElem? (i := 162) rfl)), by decide +kernel⟩
set_option maxRecDepth 100000 in
theorem w_1727 : (Jvm.Cond.methodLink "ScarArmyModel" (125 : Nat) ({ cls := "ScarArmyModel", name := "number", desc := "(II)I" } : Jvm.MethodName)) ∈ pT := List.mem_filter.mpr ⟨(tb_6 (List.mem_of_getElem? (i := 163) rfl)), by decide +kernel⟩
set_option maxRecDepth 100000 in
theorem w_1729 : (Jvm.Cond.instanceMethod ({ cls := "ScarArmyModel", name := "number", desc := "(II)I" } : Jvm.MethodName)) ∈ pT := List.mem_filter.mpr ⟨(tb_6 (List.mem_of_getElem? (i := 165) rfl)), by decide +kernel⟩
set_option maxRecDepth 100000 in
theorem w_1730 : (Jvm.Cond.code ({ cls := "ScarArmyModel", name := "number", desc := "(II)I" } : Jvm.MethodName) prog_14_method_32_code (3 : Nat) (Option.some Jvm.ClassFile.FieldType.int)) ∈ pT := List.mem_filter.mpr ⟨(tb_6 (List.mem_of_getElem? (i := 166) rfl)), by decide +kernel⟩
set_option maxRecDepth 100000 in
theorem w_1731 : (Jvm.Cond.methodLink "ScarArmyModel" (121 : Nat) ({ cls := "ScarArmyModel", name := "figures", desc := "(III)I" } : Jvm.MethodName)) ∈ pT := List.mem_filter.mpr ⟨(tb_6 (List.mem_of_getElem? (i := 167) rfl)), by decide +kernel⟩
set_option maxRecDepth 100000 in
theorem w_1733 : (Jvm.Cond.instanceMethod ({ cls := "ScarArmyModel", name := "figures", desc := "(III)I" } : Jvm.MethodName)) ∈ pT := List.mem_filter.mpr ⟨(tb_6 (List.mem_of_getElem? (i := 169) rfl)), by decide +kernel⟩
set_option maxRecDepth 100000 in
theorem w_1734 : (Jvm.Cond.code ({ cls := "ScarArmyModel", name := "figures", desc := "(III)I" } : Jvm.MethodName) prog_14_method_31_code (5 : Nat) (Option.some Jvm.ClassFile.FieldType.int)) ∈ pT := List.mem_filter.mpr ⟨(tb_6 (List.mem_of_getElem? (i := 170) rfl)), by decide +kernel⟩
set_option maxRecDepth 100000 in
theorem w_1736 : (Jvm.Cond.methodLink "ScarArmyModel" (130 : Nat) ({ cls := "ScarArmyModel", name := "after", desc := "(Ljava/lang/String;II)I" } : Jvm.MethodName)) ∈ pT := List.mem_filter.mpr ⟨(tb_6 (List.mem_of_getElem? (i := 172) rfl)), by decide +kernel⟩
set_option maxRecDepth 100000 in
theorem w_1738 : (Jvm.Cond.instanceMethod ({ cls := "ScarArmyModel", name := "after", desc := "(Ljava/lang/String;II)I" } : Jvm.MethodName)) ∈ pT := List.mem_filter.mpr ⟨(tb_6 (List.mem_of_getElem? (i := 174) rfl)), by decide +kernel⟩
set_option maxRecDepth 100000 in
theorem w_1739 : (Jvm.Cond.code ({ cls := "ScarArmyModel", name := "after", desc := "(Ljava/lang/String;II)I" } : Jvm.MethodName) prog_14_method_33_code (4 : Nat) (Option.some Jvm.ClassFile.FieldType.int)) ∈ pT := List.mem_filter.mpr ⟨(tb_6 (List.mem_of_getElem? (i := 175) rfl)), by decide +kernel⟩
set_option maxRecDepth 100000 in
theorem w_1741 : (Jvm.Cond.methodLink "ScarArmyModel" (136 : Nat) ({ cls := "ScarArmyModel", name := "isFigure", desc := "()Z" } : Jvm.MethodName)) ∈ pT := List.mem_filter.mpr ⟨(tb_6 (List.mem_of_getElem? (i := 177) rfl)), by decide +kernel⟩
set_option maxRecDepth 100000 in
theorem w_1743 : (Jvm.Cond.instanceMethod ({ cls := "ScarArmyModel", name := "isFigure", desc := "()Z" } : Jvm.MethodName)) ∈ pT := List.mem_filter.mpr ⟨(tb_6 (List.mem_of_getElem? (i := 179) rfl)), by decide +kernel⟩
set_option maxRecDepth 100000 in
theorem w_1744 : (Jvm.Cond.code ({ cls := "ScarArmyModel", name := "isFigure", desc := "()Z" } : Jvm.MethodName) prog_14_method_34_code (1 : Nat) (Option.some Jvm.ClassFile.FieldType.boolean)) ∈ pT := List.mem_filter.mpr ⟨(tb_6 (List.mem_of_getElem? (i := 180) rfl)), by decide +kernel⟩
set_option maxRecDepth 100000 in
theorem w_1746 : (Jvm.Cond.methodLink "ScarArmyModel" (166 : Nat) ({ cls := "ScarArmyModel", name := "readMan", desc := "()Z" } : Jvm.MethodName)) ∈ pT := List.mem_filter.mpr ⟨(tb_6 (List.mem_of_getElem? (i := 182) rfl)), by decide +kernel⟩
set_option maxRecDepth 100000 in
theorem w_1748 : (Jvm.Cond.instanceMethod ({ cls := "ScarArmyModel", name := "readMan", desc := "()Z" } : Jvm.MethodName)) ∈ pT := List.mem_filter.mpr ⟨(tb_6 (List.mem_of_getElem? (i := 184) rfl)), by decide +kernel⟩
set_option maxRecDepth 100000 in
theorem w_1749 : (Jvm.Cond.code ({ cls := "ScarArmyModel", name := "readMan", desc := "()Z" } : Jvm.MethodName) prog_14_method_39_code (3 : Nat) (Option.some Jvm.ClassFile.FieldType.boolean)) ∈ pT := List.mem_filter.mpr ⟨(tb_6 (List.mem_of_getElem? (i := 185) rfl)), by decide +kernel⟩
set_option maxRecDepth 100000 in
theorem w_1750 : (Jvm.Cond.methodLink "ScarArmyModel" (79 : Nat) ({ cls := "ScarArmyModel", name := "men", desc := "()I" } : Jvm.MethodName)) ∈ pT := List.mem_filter.mpr ⟨(tb_6 (List.mem_of_getElem? (i := 186) rfl)), by decide +kernel⟩
set_option maxRecDepth 100000 in
theorem w_1752 : (Jvm.Cond.instanceMethod ({ cls := "ScarArmyModel", name := "men", desc := "()I" } : Jvm.MethodName)) ∈ pT := List.mem_filter.mpr ⟨(tb_6 (List.mem_of_getElem? (i := 188) rfl)), by decide +kernel⟩
set_option maxRecDepth 100000 in
theorem w_1753 : (Jvm.Cond.code ({ cls := "ScarArmyModel", name := "men", desc := "()I" } : Jvm.MethodName) prog_14_method_11_code (1 : Nat) (Option.some Jvm.ClassFile.FieldType.int)) ∈ pT := List.mem_filter.mpr ⟨(tb_6 (List.mem_of_getElem? (i := 189) rfl)), by decide +kernel⟩
set_option maxRecDepth 100000 in
theorem w_1754 : (Jvm.Cond.methodLink "ScarArmyModel" (61 : Nat) ({ cls := "ScarArmyModel", name := "manAt", desc := "(II)I" } : Jvm.MethodName)) ∈ pT := List.mem_filter.mpr ⟨(tb_6 (List.mem_of_getElem? (i := 190) rfl)), by decide +kernel⟩
set_option maxRecDepth 100000 in
theorem w_1755 : (Jvm.Cond.static ({ cls := "ScarArmyModel", name := "manAt", desc := "(II)I" } : Jvm.MethodName)) ∈ pT := List.mem_filter.mpr ⟨(tb_6 (List.mem_of_getElem? (i := 191) rfl)), by decide +kernel⟩
set_option maxRecDepth 100000 in
theorem w_1756 : (Jvm.Cond.code ({ cls := "ScarArmyModel", name := "manAt", desc := "(II)I" } : Jvm.MethodName) prog_14_method_14_code (2 : Nat) (Option.some Jvm.ClassFile.FieldType.int)) ∈ pT := List.mem_filter.mpr ⟨(tb_6 (List.mem_of_getElem? (i := 192) rfl)), by decide +kernel⟩
set_option maxRecDepth 100000 in
theorem w_1758 : (Jvm.Cond.methodLink "ScarArmyModel" (171 : Nat) ({ cls := "ScarArmyModel", name := "readScar", desc := "()Z" } : Jvm.MethodName)) ∈ pT := List.mem_filter.mpr ⟨(tb_6 (List.mem_of_getElem? (i := 194) rfl)), by decide +kernel⟩
set_option maxRecDepth 100000 in
theorem w_1760 : (Jvm.Cond.instanceMethod ({ cls := "ScarArmyModel", name := "readScar", desc := "()Z" } : Jvm.MethodName)) ∈ pT := List.mem_filter.mpr ⟨(tb_6 (List.mem_of_getElem? (i := 196) rfl)), by decide +kernel⟩
set_option maxRecDepth 100000 in
theorem w_1761 : (Jvm.Cond.code ({ cls := "ScarArmyModel", name := "readScar", desc := "()Z" } : Jvm.MethodName) prog_14_method_41_code (7 : Nat) (Option.some Jvm.ClassFile.FieldType.boolean)) ∈ pT := List.mem_filter.mpr ⟨(tb_6 (List.mem_of_getElem? (i := 197) rfl)), by decide +kernel⟩
set_option maxRecDepth 100000 in
theorem w_1762 : (Jvm.Cond.methodLink "ScarArmyModel" (82 : Nat) ({ cls := "ScarArmyModel", name := "scars", desc := "()I" } : Jvm.MethodName)) ∈ pT := List.mem_filter.mpr ⟨(tb_6 (List.mem_of_getElem? (i := 198) rfl)), by decide +kernel⟩
set_option maxRecDepth 100000 in
theorem w_1764 : (Jvm.Cond.instanceMethod ({ cls := "ScarArmyModel", name := "scars", desc := "()I" } : Jvm.MethodName)) ∈ pT := List.mem_filter.mpr ⟨(tb_6 (List.mem_of_getElem? (i := 200) rfl)), by decide +kernel⟩
set_option maxRecDepth 100000 in
theorem w_1765 : (Jvm.Cond.code ({ cls := "ScarArmyModel", name := "scars", desc := "()I" } : Jvm.MethodName) prog_14_method_12_code (1 : Nat) (Option.some Jvm.ClassFile.FieldType.int)) ∈ pT := List.mem_filter.mpr ⟨(tb_6 (List.mem_of_getElem? (i := 201) rfl)), by decide +kernel⟩
set_option maxRecDepth 100000 in
theorem w_1771 : (Jvm.Cond.methodLink "ScarArmyModel" (149 : Nat) ({ cls := "ScarArmyModel", name := "passes", desc := "(Ljava/lang/String;)Z" } : Jvm.MethodName)) ∈ pT := List.mem_filter.mpr ⟨(tb_6 (List.mem_of_getElem? (i := 207) rfl)), by decide +kernel⟩
set_option maxRecDepth 100000 in
theorem w_1773 : (Jvm.Cond.instanceMethod ({ cls := "ScarArmyModel", name := "passes", desc := "(Ljava/lang/String;)Z" } : Jvm.MethodName)) ∈ pT := List.mem_filter.mpr ⟨(tb_6 (List.mem_of_getElem? (i := 209) rfl)), by decide +kernel⟩
set_option maxRecDepth 100000 in
theorem w_1774 : (Jvm.Cond.code ({ cls := "ScarArmyModel", name := "passes", desc := "(Ljava/lang/String;)Z" } : Jvm.MethodName) prog_14_method_29_code (2 : Nat) (Option.some Jvm.ClassFile.FieldType.boolean)) ∈ pT := List.mem_filter.mpr ⟨(tb_6 (List.mem_of_getElem? (i := 210) rfl)), by decide +kernel⟩
set_option maxRecDepth 100000 in
theorem w_1775 : (Jvm.Cond.methodLink "ScarArmyModel" (152 : Nat) ({ cls := "ScarArmyModel", name := "manTold", desc := "()I" } : Jvm.MethodName)) ∈ pT := List.mem_filter.mpr ⟨(tb_6 (List.mem_of_getElem? (i := 211) rfl)), by decide +kernel⟩
set_option maxRecDepth 100000 in
theorem w_1777 : (Jvm.Cond.instanceMethod ({ cls := "ScarArmyModel", name := "manTold", desc := "()I" } : Jvm.MethodName)) ∈ pT := List.mem_filter.mpr ⟨(tb_6 (List.mem_of_getElem? (i := 213) rfl)), by decide +kernel⟩
set_option maxRecDepth 100000 in
theorem w_1778 : (Jvm.Cond.code ({ cls := "ScarArmyModel", name := "manTold", desc := "()I" } : Jvm.MethodName) prog_14_method_37_code (1 : Nat) (Option.some Jvm.ClassFile.FieldType.int)) ∈ pT := List.mem_filter.mpr ⟨(tb_6 (List.mem_of_getElem? (i := 214) rfl)), by decide +kernel⟩
set_option maxRecDepth 100000 in
theorem w_1779 : (Jvm.Cond.methodLink "ScarArmyModel" (155 : Nat) ({ cls := "ScarArmyModel", name := "appends", desc := "(IIIIII)V" } : Jvm.MethodName)) ∈ pT := List.mem_filter.mpr ⟨(tb_6 (List.mem_of_getElem? (i := 215) rfl)), by decide +kernel⟩
set_option maxRecDepth 100000 in
theorem w_1781 : (Jvm.Cond.instanceMethod ({ cls := "ScarArmyModel", name := "appends", desc := "(IIIIII)V" } : Jvm.MethodName)) ∈ pT := List.mem_filter.mpr ⟨(tb_6 (List.mem_of_getElem? (i := 217) rfl)), by decide +kernel⟩
set_option maxRecDepth 100000 in
theorem w_1782 : (Jvm.Cond.code ({ cls := "ScarArmyModel", name := "appends", desc := "(IIIIII)V" } : Jvm.MethodName) prog_14_method_40_code (8 : Nat) (Option.none : Option Jvm.ClassFile.FieldType)) ∈ pT := List.mem_filter.mpr ⟨(tb_6 (List.mem_of_getElem? (i := 218) rfl)), by decide +kernel⟩
set_option maxRecDepth 100000 in
theorem w_1783 : (Jvm.Cond.methodLink "ScarArmyModel" (65 : Nat) ({ cls := "ScarArmyModel", name := "scarAt", desc := "(II)I" } : Jvm.MethodName)) ∈ pT := List.mem_filter.mpr ⟨(tb_6 (List.mem_of_getElem? (i := 219) rfl)), by decide +kernel⟩
set_option maxRecDepth 100000 in
theorem w_1784 : (Jvm.Cond.static ({ cls := "ScarArmyModel", name := "scarAt", desc := "(II)I" } : Jvm.MethodName)) ∈ pT := List.mem_filter.mpr ⟨(tb_6 (List.mem_of_getElem? (i := 220) rfl)), by decide +kernel⟩
set_option maxRecDepth 100000 in
theorem w_1785 : (Jvm.Cond.code ({ cls := "ScarArmyModel", name := "scarAt", desc := "(II)I" } : Jvm.MethodName) prog_14_method_16_code (2 : Nat) (Option.some Jvm.ClassFile.FieldType.int)) ∈ pT := List.mem_filter.mpr ⟨(tb_6 (List.mem_of_getElem? (i := 221) rfl)), by decide +kernel⟩
set_option maxRecDepth 100000 in
theorem w_1787 : (Jvm.Cond.methodLink "ScarArmyModel" (176 : Nat) ({ cls := "ScarArmyModel", name := "readTold", desc := "()Z" } : Jvm.MethodName)) ∈ pT := List.mem_filter.mpr ⟨(tb_6 (List.mem_of_getElem? (i := 223) rfl)), by decide +kernel⟩
set_option maxRecDepth 100000 in
theorem w_1789 : (Jvm.Cond.instanceMethod ({ cls := "ScarArmyModel", name := "readTold", desc := "()Z" } : Jvm.MethodName)) ∈ pT := List.mem_filter.mpr ⟨(tb_6 (List.mem_of_getElem? (i := 225) rfl)), by decide +kernel⟩
set_option maxRecDepth 100000 in
theorem w_1790 : (Jvm.Cond.code ({ cls := "ScarArmyModel", name := "readTold", desc := "()Z" } : Jvm.MethodName) prog_14_method_42_code (3 : Nat) (Option.some Jvm.ClassFile.FieldType.boolean)) ∈ pT := List.mem_filter.mpr ⟨(tb_6 (List.mem_of_getElem? (i := 226) rfl)), by decide +kernel⟩
set_option maxRecDepth 100000 in
theorem w_1792 : (Jvm.Cond.methodLink "ScarArmyModel" (181 : Nat) ({ cls := "ScarArmyModel", name := "readDead", desc := "()Z" } : Jvm.MethodName)) ∈ pT := List.mem_filter.mpr ⟨(tb_6 (List.mem_of_getElem? (i := 228) rfl)), by decide +kernel⟩
set_option maxRecDepth 100000 in
theorem w_1794 : (Jvm.Cond.instanceMethod ({ cls := "ScarArmyModel", name := "readDead", desc := "()Z" } : Jvm.MethodName)) ∈ pT := List.mem_filter.mpr ⟨(tb_6 (List.mem_of_getElem? (i := 230) rfl)), by decide +kernel⟩
set_option maxRecDepth 100000 in
theorem w_1795 : (Jvm.Cond.code ({ cls := "ScarArmyModel", name := "readDead", desc := "()Z" } : Jvm.MethodName) prog_14_method_43_code (2 : Nat) (Option.some Jvm.ClassFile.FieldType.boolean)) ∈ pT := List.mem_filter.mpr ⟨(tb_6 (List.mem_of_getElem? (i := 231) rfl)), by decide +kernel⟩
set_option maxRecDepth 100000 in
theorem w_1797 : (Jvm.Cond.methodLink "ScarArmyModel" (249 : Nat) ({ cls := "ScarArmyModel", name := "readLawLine", desc := "(I)Z" } : Jvm.MethodName)) ∈ pT := List.mem_filter.mpr ⟨(tb_6 (List.mem_of_getElem? (i := 233) rfl)), by decide +kernel⟩
set_option maxRecDepth 100000 in
theorem w_1799 : (Jvm.Cond.instanceMethod ({ cls := "ScarArmyModel", name := "readLawLine", desc := "(I)Z" } : Jvm.MethodName)) ∈ pT := List.mem_filter.mpr ⟨(tb_6 (List.mem_of_getElem? (i := 235) rfl)), by decide +kernel⟩
set_option maxRecDepth 100000 in
theorem w_1800 : (Jvm.Cond.code ({ cls := "ScarArmyModel", name := "readLawLine", desc := "(I)Z" } : Jvm.MethodName) prog_14_method_52_code (4 : Nat) (Option.some Jvm.ClassFile.FieldType.boolean)) ∈ pT := List.mem_filter.mpr ⟨(tb_6 (List.mem_of_getElem? (i := 236) rfl)), by decide +kernel⟩
set_option maxRecDepth 100000 in
theorem w_1805 : (Jvm.Cond.methodLink "ScarArmyModel" (217 : Nat) ({ cls := "ScarArmyModel", name := "readCond", desc := "()Z" } : Jvm.MethodName)) ∈ pT := List.mem_filter.mpr ⟨(tb_7 (List.mem_of_getElem? (i := 1) rfl)), by decide +kernel⟩
set_option maxRecDepth 100000 in
theorem w_1807 : (Jvm.Cond.instanceMethod ({ cls := "ScarArmyModel", name := "readCond", desc := "()Z" } : Jvm.MethodName)) ∈ pT := List.mem_filter.mpr ⟨(tb_7 (List.mem_of_getElem? (i := 3) rfl)), by decide +kernel⟩
set_option maxRecDepth 100000 in
theorem w_1808 : (Jvm.Cond.code ({ cls := "ScarArmyModel", name := "readCond", desc := "()Z" } : Jvm.MethodName) prog_14_method_51_code (1 : Nat) (Option.some Jvm.ClassFile.FieldType.boolean)) ∈ pT := List.mem_filter.mpr ⟨(tb_7 (List.mem_of_getElem? (i := 4) rfl)), by decide +kernel⟩
set_option maxRecDepth 100000 in
theorem w_1809 : (Jvm.Cond.methodLink "ScarArmyModel" (233 : Nat) ({ cls := "ScarArmyModel", name := "readAllOf", desc := "()Z" } : Jvm.MethodName)) ∈ pT := List.mem_filter.mpr ⟨(tb_7 (List.mem_of_getElem? (i := 5) rfl)), by decide +kernel⟩
set_option maxRecDepth 100000 in
theorem w_1811 : (Jvm.Cond.instanceMethod ({ cls := "ScarArmyModel", name := "readAllOf", desc := "()Z" } : Jvm.MethodName)) ∈ pT := List.mem_filter.mpr ⟨(tb_7 (List.mem_of_getElem? (i := 7) rfl)), by decide +kernel⟩
set_option maxRecDepth 100000 in
theorem w_1812 : (Jvm.Cond.code ({ cls := "ScarArmyModel", name := "readAllOf", desc := "()Z" } : Jvm.MethodName) prog_14_method_50_code (1 : Nat) (Option.some Jvm.ClassFile.FieldType.boolean)) ∈ pT := List.mem_filter.mpr ⟨(tb_7 (List.mem_of_getElem? (i := 8) rfl)), by decide +kernel⟩
set_option maxRecDepth 100000 in
theorem w_1813 : (Jvm.Cond.methodLink "ScarArmyModel" (222 : Nat) ({ cls := "ScarArmyModel", name := "readAtom", desc := "()Z" } : Jvm.MethodName)) ∈ pT := List.mem_filter.mpr ⟨(tb_7 (List.mem_of_getElem? (i := 9) rfl)), by decide +kernel⟩
set_option maxRecDepth 100000 in
theorem w_1815 : (Jvm.Cond.instanceMethod ({ cls := "ScarArmyModel", name := "readAtom", desc := "()Z" } : Jvm.MethodName)) ∈ pT := List.mem_filter.mpr ⟨(tb_7 (List.mem_of_getElem? (i := 11) rfl)), by decide +kernel⟩
set_option maxRecDepth 100000 in
theorem w_1816 : (Jvm.Cond.code ({ cls := "ScarArmyModel", name := "readAtom", desc := "()Z" } : Jvm.MethodName) prog_14_method_49_code (2 : Nat) (Option.some Jvm.ClassFile.FieldType.boolean)) ∈ pT := List.mem_filter.mpr ⟨(tb_7 (List.mem_of_getElem? (i := 12) rfl)), by decide +kernel⟩
set_option maxRecDepth 100000 in
theorem w_1817 : (Jvm.Cond.methodLink "ScarArmyModel" (204 : Nat) ({ cls := "ScarArmyModel", name := "sign", desc := "(I)Z" } : Jvm.MethodName)) ∈ pT := List.mem_filter.mpr ⟨(tb_7 (List.mem_of_getElem? (i := 13) rfl)), by decide +kernel⟩
set_option maxRecDepth 100000 in
theorem w_1819 : (Jvm.Cond.instanceMethod ({ cls := "ScarArmyModel", name := "sign", desc := "(I)Z" } : Jvm.MethodName)) ∈ pT := List.mem_filter.mpr ⟨(tb_7 (List.mem_of_getElem? (i := 15) rfl)), by decide +kernel⟩
set_option maxRecDepth 100000 in
theorem w_1820 : (Jvm.Cond.code ({ cls := "ScarArmyModel", name := "sign", desc := "(I)Z" } : Jvm.MethodName) prog_14_method_30_code (2 : Nat) (Option.some Jvm.ClassFile.FieldType.boolean)) ∈ pT := List.mem_filter.mpr ⟨(tb_7 (List.mem_of_getElem? (i := 16) rfl)), by decide +kernel⟩
set_option maxRecDepth 100000 in
theorem w_1822 : (Jvm.Cond.methodLink "ScarArmyModel" (189 : Nat) ({ cls := "ScarArmyModel", name := "emits", desc := "(II)V" } : Jvm.MethodName)) ∈ pT := List.mem_filter.mpr ⟨(tb_7 (List.mem_of_getElem? (i := 18) rfl)), by decide +kernel⟩
set_option maxRecDepth 100000 in
theorem w_1824 : (Jvm.Cond.instanceMethod ({ cls := "ScarArmyModel", name := "emits", desc := "(II)V" } : Jvm.MethodName)) ∈ pT := List.mem_filter.mpr ⟨(tb_7 (List.mem_of_getElem? (i := 20) rfl)), by decide +kernel⟩
set_option maxRecDepth 100000 in
theorem w_1825 : (Jvm.Cond.code ({ cls := "ScarArmyModel", name := "emits", desc := "(II)V" } : Jvm.MethodName) prog_14_method_45_code (3 : Nat) (Option.none : Option Jvm.ClassFile.FieldType)) ∈ pT := List.mem_filter.mpr ⟨(tb_7 (List.mem_of_getElem? (i := 21) rfl)), by decide +kernel⟩
set_option maxRecDepth 100000 in
theorem w_1826 : (Jvm.Cond.methodLink "ScarArmyModel" (225 : Nat) ({ cls := "ScarArmyModel", name := "readTag", desc := "()Z" } : Jvm.MethodName)) ∈ pT := List.mem_filter.mpr ⟨(tb_7 (List.mem_of_getElem? (i := 22) rfl)), by decide +kernel⟩
set_option maxRecDepth 100000 in
theorem w_1828 : (Jvm.Cond.instanceMethod ({ cls := "ScarArmyModel", name := "readTag", desc := "()Z" } : Jvm.MethodName)) ∈ pT := List.mem_filter.mpr ⟨(tb_7 (List.mem_of_getElem? (i := 24) rfl)), by decide +kernel⟩
set_option maxRecDepth 100000 in
theorem w_1829 : (Jvm.Cond.code ({ cls := "ScarArmyModel", name := "readTag", desc := "()Z" } : Jvm.MethodName) prog_14_method_48_code (2 : Nat) (Option.some Jvm.ClassFile.FieldType.boolean)) ∈ pT := List.mem_filter.mpr ⟨(tb_7 (List.mem_of_getElem? (i := 25) rfl)), by decide +kernel⟩
set_option maxRecDepth 100000 in
theorem w_1833 : (Jvm.Cond.methodLink "ScarArmyModel" (228 : Nat) ({ cls := "ScarArmyModel", name := "readSum", desc := "()Z" } : Jvm.MethodName)) ∈ pT := List.mem_filter.mpr ⟨(tb_7 (List.mem_of_getElem? (i := 29) rfl)), by decide +kernel⟩
set_option maxRecDepth 100000 in
theorem w_1835 : (Jvm.Cond.instanceMethod ({ cls := "ScarArmyModel", name := "readSum", desc := "()Z" } : Jvm.MethodName)) ∈ pT := List.mem_filter.mpr ⟨(tb_7 (List.mem_of_getElem? (i := 31) rfl)), by decide +kernel⟩
set_option maxRecDepth 100000 in
theorem w_1836 : (Jvm.Cond.code ({ cls := "ScarArmyModel", name := "readSum", desc := "()Z" } : Jvm.MethodName) prog_14_method_47_code (1 : Nat) (Option.some Jvm.ClassFile.FieldType.boolean)) ∈ pT := List.mem_filter.mpr ⟨(tb_7 (List.mem_of_getElem? (i := 32) rfl)), by decide +kernel⟩
set_option maxRecDepth 100000 in
theorem w_1837 : (Jvm.Cond.methodLink "ScarArmyModel" (201 : Nat) ({ cls := "ScarArmyModel", name := "readPart", desc := "()Z" } : Jvm.MethodName)) ∈ pT := List.mem_filter.mpr ⟨(tb_7 (List.mem_of_getElem? (i := 33) rfl)), by decide +kernel⟩
set_option maxRecDepth 100000 in
theorem w_1839 : (Jvm.Cond.instanceMethod ({ cls := "ScarArmyModel", name := "readPart", desc := "()Z" } : Jvm.MethodName)) ∈ pT := List.mem_filter.mpr ⟨(tb_7 (List.mem_of_getElem? (i := 35) rfl)), by decide +kernel⟩
set_option maxRecDepth 100000 in
theorem w_1840 : (Jvm.Cond.code ({ cls := "ScarArmyModel", name := "readPart", desc := "()Z" } : Jvm.MethodName) prog_14_method_46_code (2 : Nat) (Option.some Jvm.ClassFile.FieldType.boolean)) ∈ pT := List.mem_filter.mpr ⟨(tb_7 (List.mem_of_getElem? (i := 36) rfl)), by decide +kernel⟩
set_option maxRecDepth 100000 in
theorem w_1847 : (Jvm.Cond.methodLink "ScarArmyModel" (263 : Nat) ({ cls := "ScarArmyModel", name := "throwsIf", desc := "(ZI)Z" } : Jvm.MethodName)) ∈ pT := List.mem_filter.mpr ⟨(tb_7 (List.mem_of_getElem? (i := 43) rfl)), by decide +kernel⟩
set_option maxRecDepth 100000 in
theorem w_1849 : (Jvm.Cond.instanceMethod ({ cls := "ScarArmyModel", name := "throwsIf", desc := "(ZI)Z" } : Jvm.MethodName)) ∈ pT := List.mem_filter.mpr ⟨(tb_7 (List.mem_of_getElem? (i := 45) rfl)), by decide +kernel⟩
set_option maxRecDepth 100000 in
theorem w_1850 : (Jvm.Cond.code ({ cls := "ScarArmyModel", name := "throwsIf", desc := "(ZI)Z" } : Jvm.MethodName) prog_14_method_2_code (3 : Nat) (Option.some Jvm.ClassFile.FieldType.boolean)) ∈ pT := List.mem_filter.mpr ⟨(tb_7 (List.mem_of_getElem? (i := 46) rfl)), by decide +kernel⟩
set_option maxRecDepth 100000 in
theorem w_1854 : (Jvm.Cond.code ({ cls := "ScarArmyModel", name := "law", desc := "()I" } : Jvm.MethodName) prog_14_method_56_code (3 : Nat) (Option.some Jvm.ClassFile.FieldType.int)) ∈ pT := List.mem_filter.mpr ⟨(tb_7 (List.mem_of_getElem? (i := 50) rfl)), by decide +kernel⟩
set_option maxRecDepth 100000 in
theorem w_1858 : (Jvm.Cond.code ({ cls := "ScarArmyModel", name := "battle", desc := "(II)I" } : Jvm.MethodName) prog_14_method_75_code (3 : Nat) (Option.some Jvm.ClassFile.FieldType.int)) ∈ pT := List.mem_filter.mpr ⟨(tb_7 (List.mem_of_getElem? (i := 54) rfl)), by decide +kernel⟩
set_option maxRecDepth 100000 in
theorem w_1859 : (Jvm.Cond.methodLink "ScarArmyModel" (323 : Nat) ({ cls := "ScarArmyModel", name := "noBattle", desc := "(I)Z" } : Jvm.MethodName)) ∈ pT := List.mem_filter.mpr ⟨(tb_7 (List.mem_of_getElem? (i := 55) rfl)), by decide +kernel⟩
set_option maxRecDepth 100000 in
theorem w_1861 : (Jvm.Cond.instanceMethod ({ cls := "ScarArmyModel", name := "noBattle", desc := "(I)Z" } : Jvm.MethodName)) ∈ pT := List.mem_filter.mpr ⟨(tb_7 (List.mem_of_getElem? (i := 57) rfl)), by decide +kernel⟩
set_option maxRecDepth 100000 in
theorem w_1862 : (Jvm.Cond.code ({ cls := "ScarArmyModel", name := "noBattle", desc := "(I)Z" } : Jvm.MethodName) prog_14_method_19_code (2 : Nat) (Option.some Jvm.ClassFile.FieldType.boolean)) ∈ pT := List.mem_filter.mpr ⟨(tb_7 (List.mem_of_getElem? (i := 58) rfl)), by decide +kernel⟩
set_option maxRecDepth 100000 in
theorem w_1863 : (Jvm.Cond.methodLink "ScarArmyModel" (75 : Nat) ({ cls := "ScarArmyModel", name := "in", desc := "(III)Z" } : Jvm.MethodName)) ∈ pT := List.mem_filter.mpr ⟨(tb_7 (List.mem_of_getElem? (i := 59) rfl)), by decide +kernel⟩
set_option maxRecDepth 100000 in
theorem w_1864 : (Jvm.Cond.static ({ cls := "ScarArmyModel", name := "in", desc := "(III)Z" } : Jvm.MethodName)) ∈ pT := List.mem_filter.mpr ⟨(tb_7 (List.mem_of_getElem? (i := 60) rfl)), by decide +kernel⟩
set_option maxRecDepth 100000 in
theorem w_1865 : (Jvm.Cond.code ({ cls := "ScarArmyModel", name := "in", desc := "(III)Z" } : Jvm.MethodName) prog_14_method_3_code (3 : Nat) (Option.some Jvm.ClassFile.FieldType.boolean)) ∈ pT := List.mem_filter.mpr ⟨(tb_7 (List.mem_of_getElem? (i := 61) rfl)), by decide +kernel⟩
set_option maxRecDepth 100000 in
theorem w_1866 : (Jvm.Cond.methodLink "ScarArmyModel" (326 : Nat) ({ cls := "ScarArmyModel", name := "menAt", desc := "(IZ)I" } : Jvm.MethodName)) ∈ pT := List.mem_filter.mpr ⟨(tb_7 (List.mem_of_getElem? (i := 62) rfl)), by decide +kernel⟩
set_option maxRecDepth 100000 in
theorem w_1868 : (Jvm.Cond.instanceMethod ({ cls := "ScarArmyModel", name := "menAt", desc := "(IZ)I" } : Jvm.MethodName)) ∈ pT := List.mem_filter.mpr ⟨(tb_7 (List.mem_of_getElem? (i := 64) rfl)), by decide +kernel⟩
set_option maxRecDepth 100000 in
theorem w_1869 : (Jvm.Cond.code ({ cls := "ScarArmyModel", name := "menAt", desc := "(IZ)I" } : Jvm.MethodName) prog_14_method_72_code (5 : Nat) (Option.some Jvm.ClassFile.FieldType.int)) ∈ pT := List.mem_filter.mpr ⟨(tb_7 (List.mem_of_getElem? (i := 65) rfl)), by decide +kernel⟩
set_option maxRecDepth 100000 in
theorem w_1870 : (Jvm.Cond.methodLink "ScarArmyModel" (266 : Nat) ({ cls := "ScarArmyModel", name := "of", desc := "(II)I" } : Jvm.MethodName)) ∈ pT := List.mem_filter.mpr ⟨(tb_7 (List.mem_of_getElem? (i := 66) rfl)), by decide +kernel⟩
set_option maxRecDepth 100000 in
theorem w_1872 : (Jvm.Cond.instanceMethod ({ cls := "ScarArmyModel", name := "of", desc := "(II)I" } : Jvm.MethodName)) ∈ pT := List.mem_filter.mpr ⟨(tb_7 (List.mem_of_getElem? (i := 68) rfl)), by decide +kernel⟩
set_option maxRecDepth 100000 in
theorem w_1873 : (Jvm.Cond.code ({ cls := "ScarArmyModel", name := "of", desc := "(II)I" } : Jvm.MethodName) prog_14_method_17_code (3 : Nat) (Option.some Jvm.ClassFile.FieldType.int)) ∈ pT := List.mem_filter.mpr ⟨(tb_7 (List.mem_of_getElem? (i := 69) rfl)), by decide +kernel⟩
set_option maxRecDepth 100000 in
theorem w_1874 : (Jvm.Cond.methodLink "ScarArmyModel" (330 : Nat) ({ cls := "ScarArmyModel", name := "wasThere", desc := "(I)I" } : Jvm.MethodName)) ∈ pT := List.mem_filter.mpr ⟨(tb_7 (List.mem_of_getElem? (i := 70) rfl)), by decide +kernel⟩
set_option maxRecDepth 100000 in
theorem w_1876 : (Jvm.Cond.instanceMethod ({ cls := "ScarArmyModel", name := "wasThere", desc := "(I)I" } : Jvm.MethodName)) ∈ pT := List.mem_filter.mpr ⟨(tb_7 (List.mem_of_getElem? (i := 72) rfl)), by decide +kernel⟩
set_option maxRecDepth 100000 in
theorem w_1877 : (Jvm.Cond.code ({ cls := "ScarArmyModel", name := "wasThere", desc := "(I)I" } : Jvm.MethodName) prog_14_method_73_code (5 : Nat) (Option.some Jvm.ClassFile.FieldType.int)) ∈ pT := List.mem_filter.mpr ⟨(tb_7 (List.mem_of_getElem? (i := 73) rfl)), by decide +kernel⟩
set_option maxRecDepth 100000 in
theorem w_1878 : (Jvm.Cond.methodLink "ScarArmyModel" (317 : Nat) ({ cls := "ScarArmyModel", name := "isAlive", desc := "(I)Z" } : Jvm.MethodName)) ∈ pT := List.mem_filter.mpr ⟨(tb_7 (List.mem_of_getElem? (i := 74) rfl)), by decide +kernel⟩
set_option maxRecDepth 100000 in
theorem w_1880 : (Jvm.Cond.instanceMethod ({ cls := "ScarArmyModel", name := "isAlive", desc := "(I)Z" } : Jvm.MethodName)) ∈ pT := List.mem_filter.mpr ⟨(tb_7 (List.mem_of_getElem? (i := 76) rfl)), by decide +kernel⟩
set_option maxRecDepth 100000 in
theorem w_1881 : (Jvm.Cond.code ({ cls := "ScarArmyModel", name := "isAlive", desc := "(I)Z" } : Jvm.MethodName) prog_14_method_18_code (2 : Nat) (Option.some Jvm.ClassFile.FieldType.boolean)) ∈ pT := List.mem_filter.mpr ⟨(tb_7 (List.mem_of_getElem? (i := 77) rfl)), by decide +kernel⟩
set_option maxRecDepth 100000 in
theorem w_1882 : (Jvm.Cond.methodLink "ScarArmyModel" (68 : Nat) ({ cls := "ScarArmyModel", name := "ofMan", desc := "(II)I" } : Jvm.MethodName)) ∈ pT := List.mem_filter.mpr ⟨(tb_7 (List.mem_of_getElem? (i := 78) rfl)), by decide +kernel⟩
set_option maxRecDepth 100000 in
theorem w_1884 : (Jvm.Cond.instanceMethod ({ cls := "ScarArmyModel", name := "ofMan", desc := "(II)I" } : Jvm.MethodName)) ∈ pT := List.mem_filter.mpr ⟨(tb_7 (List.mem_of_getElem? (i := 80) rfl)), by decide +kernel⟩
set_option maxRecDepth 100000 in
theorem w_1885 : (Jvm.Cond.code ({ cls := "ScarArmyModel", name := "ofMan", desc := "(II)I" } : Jvm.MethodName) prog_14_method_15_code (3 : Nat) (Option.some Jvm.ClassFile.FieldType.int)) ∈ pT := List.mem_filter.mpr ⟨(tb_7 (List.mem_of_getElem? (i := 81) rfl)), by decide +kernel⟩
set_option maxRecDepth 100000 in
theorem w_1886 : (Jvm.Cond.methodLink "ScarArmyModel" (320 : Nat) ({ cls := "ScarArmyModel", name := "isVoid", desc := "(I)Z" } : Jvm.MethodName)) ∈ pT := List.mem_filter.mpr ⟨(tb_7 (List.mem_of_getElem? (i := 82) rfl)), by decide +kernel⟩
set_option maxRecDepth 100000 in
theorem w_1888 : (Jvm.Cond.instanceMethod ({ cls := "ScarArmyModel", name := "isVoid", desc := "(I)Z" } : Jvm.MethodName)) ∈ pT := List.mem_filter.mpr ⟨(tb_7 (List.mem_of_getElem? (i := 84) rfl)), by decide +kernel⟩
set_option maxRecDepth 100000 in
theorem w_1889 : (Jvm.Cond.code ({ cls := "ScarArmyModel", name := "isVoid", desc := "(I)Z" } : Jvm.MethodName) prog_14_method_63_code (2 : Nat) (Option.some Jvm.ClassFile.FieldType.boolean)) ∈ pT := List.mem_filter.mpr ⟨(tb_7 (List.mem_of_getElem? (i := 85) rfl)), by decide +kernel⟩
set_option maxRecDepth 100000 in
theorem w_1890 : (Jvm.Cond.methodLink "ScarArmyModel" (291 : Nat) ({ cls := "ScarArmyModel", name := "isVoidBy", desc := "(II)Z" } : Jvm.MethodName)) ∈ pT := List.mem_filter.mpr ⟨(tb_7 (List.mem_of_getElem? (i := 86) rfl)), by decide +kernel⟩
set_option maxRecDepth 100000 in
theorem w_1892 : (Jvm.Cond.instanceMethod ({ cls := "ScarArmyModel", name := "isVoidBy", desc := "(II)Z" } : Jvm.MethodName)) ∈ pT := List.mem_filter.mpr ⟨(tb_7 (List.mem_of_getElem? (i := 88) rfl)), by decide +kernel⟩
set_option maxRecDepth 100000 in
theorem w_1893 : (Jvm.Cond.code ({ cls := "ScarArmyModel", name := "isVoidBy", desc := "(II)Z" } : Jvm.MethodName) prog_14_method_62_code (5 : Nat) (Option.some Jvm.ClassFile.FieldType.boolean)) ∈ pT := List.mem_filter.mpr ⟨(tb_7 (List.mem_of_getElem? (i := 89) rfl)), by decide +kernel⟩
set_option maxRecDepth 100000 in
theorem w_1894 : (Jvm.Cond.methodLink "ScarArmyModel" (288 : Nat) ({ cls := "ScarArmyModel", name := "holdsLine", desc := "(III)Z" } : Jvm.MethodName)) ∈ pT := List.mem_filter.mpr ⟨(tb_7 (List.mem_of_getElem? (i := 90) rfl)), by decide +kernel⟩
set_option maxRecDepth 100000 in
theorem w_1896 : (Jvm.Cond.instanceMethod ({ cls := "ScarArmyModel", name := "holdsLine", desc := "(III)Z" } : Jvm.MethodName)) ∈ pT := List.mem_filter.mpr ⟨(tb_7 (List.mem_of_getElem? (i := 92) rfl)), by decide +kernel⟩
set_option maxRecDepth 100000 in
theorem w_1897 : (Jvm.Cond.code ({ cls := "ScarArmyModel", name := "holdsLine", desc := "(III)Z" } : Jvm.MethodName) prog_14_method_61_code (11 : Nat) (Option.some Jvm.ClassFile.FieldType.boolean)) ∈ pT := List.mem_filter.mpr ⟨(tb_7 (List.mem_of_getElem? (i := 93) rfl)), by decide +kernel⟩
set_option maxRecDepth 100000 in
theorem w_1898 : (Jvm.Cond.methodLink "ScarArmyModel" (284 : Nat) ({ cls := "ScarArmyModel", name := "factOf", desc := "(IIII)I" } : Jvm.MethodName)) ∈ pT := List.mem_filter.mpr ⟨(tb_7 (List.mem_of_getElem? (i := 94) rfl)), by decide +kernel⟩
set_option maxRecDepth 100000 in
theorem w_1900 : (Jvm.Cond.instanceMethod ({ cls := "ScarArmyModel", name := "factOf", desc := "(IIII)I" } : Jvm.MethodName)) ∈ pT := List.mem_filter.mpr ⟨(tb_7 (List.mem_of_getElem? (i := 96) rfl)), by decide +kernel⟩
set_option maxRecDepth 100000 in
theorem w_1901 : (Jvm.Cond.code ({ cls := "ScarArmyModel", name := "factOf", desc := "(IIII)I" } : Jvm.MethodName) prog_14_method_60_code (5 : Nat) (Option.some Jvm.ClassFile.FieldType.int)) ∈ pT := List.mem_filter.mpr ⟨(tb_7 (List.mem_of_getElem? (i := 97) rfl)), by decide +kernel⟩
set_option maxRecDepth 100000 in
theorem w_1902 : (Jvm.Cond.methodLink "ScarArmyModel" (274 : Nat) ({ cls := "ScarArmyModel", name := "daysOf", desc := "(I)I" } : Jvm.MethodName)) ∈ pT := List.mem_filter.mpr ⟨(tb_7 (List.mem_of_getElem? (i := 98) rfl)), by decide +kernel⟩
set_option maxRecDepth 100000 in
theorem w_1904 : (Jvm.Cond.instanceMethod ({ cls := "ScarArmyModel", name := "daysOf", desc := "(I)I" } : Jvm.MethodName)) ∈ pT := List.mem_filter.mpr ⟨(tb_7 (List.mem_of_getElem? (i := 100) rfl)), by decide +kernel⟩
set_option maxRecDepth 100000 in
theorem w_1905 : (Jvm.Cond.code ({ cls := "ScarArmyModel", name := "daysOf", desc := "(I)I" } : Jvm.MethodName) prog_14_method_58_code (2 : Nat) (Option.some Jvm.ClassFile.FieldType.int)) ∈ pT := List.mem_filter.mpr ⟨(tb_7 (List.mem_of_getElem? (i := 101) rfl)), by decide +kernel⟩
set_option maxRecDepth 100000 in
theorem w_1906 : (Jvm.Cond.methodLink "ScarArmyModel" (268 : Nat) ({ cls := "ScarArmyModel", name := "ofBattle", desc := "(II)I" } : Jvm.MethodName)) ∈ pT := List.mem_filter.mpr ⟨(tb_7 (List.mem_of_getElem? (i := 102) rfl)), by decide +kernel⟩
set_option maxRecDepth 100000 in
theorem w_1908 : (Jvm.Cond.instanceMethod ({ cls := "ScarArmyModel", name := "ofBattle", desc := "(II)I" } : Jvm.MethodName)) ∈ pT := List.mem_filter.mpr ⟨(tb_7 (List.mem_of_getElem? (i := 104) rfl)), by decide +kernel⟩
set_option maxRecDepth 100000 in
theorem w_1909 : (Jvm.Cond.code ({ cls := "ScarArmyModel", name := "ofBattle", desc := "(II)I" } : Jvm.MethodName) prog_14_method_13_code (3 : Nat) (Option.some Jvm.ClassFile.FieldType.int)) ∈ pT := List.mem_filter.mpr ⟨(tb_7 (List.mem_of_getElem? (i := 105) rfl)), by decide +kernel⟩
set_option maxRecDepth 100000 in
theorem w_1910 : (Jvm.Cond.methodLink "ScarArmyModel" (278 : Nat) ({ cls := "ScarArmyModel", name := "isFit", desc := "(I)Z" } : Jvm.MethodName)) ∈ pT := List.mem_filter.mpr ⟨(tb_7 (List.mem_of_getElem? (i := 106) rfl)), by decide +kernel⟩
set_option maxRecDepth 100000 in
theorem w_1912 : (Jvm.Cond.instanceMethod ({ cls := "ScarArmyModel", name := "isFit", desc := "(I)Z" } : Jvm.MethodName)) ∈ pT := List.mem_filter.mpr ⟨(tb_7 (List.mem_of_getElem? (i := 108) rfl)), by decide +kernel⟩
set_option maxRecDepth 100000 in
theorem w_1913 : (Jvm.Cond.code ({ cls := "ScarArmyModel", name := "isFit", desc := "(I)Z" } : Jvm.MethodName) prog_14_method_57_code (2 : Nat) (Option.some Jvm.ClassFile.FieldType.boolean)) ∈ pT := List.mem_filter.mpr ⟨(tb_7 (List.mem_of_getElem? (i := 109) rfl)), by decide +kernel⟩
set_option maxRecDepth 100000 in
theorem w_1914 : (Jvm.Cond.methodLink "ScarArmyModel" (271 : Nat) ({ cls := "ScarArmyModel", name := "has", desc := "(II)Z" } : Jvm.MethodName)) ∈ pT := List.mem_filter.mpr ⟨(tb_7 (List.mem_of_getElem? (i := 110) rfl)), by decide +kernel⟩
set_option maxRecDepth 100000 in
theorem w_1915 : (Jvm.Cond.static ({ cls := "ScarArmyModel", name := "has", desc := "(II)Z" } : Jvm.MethodName)) ∈ pT := List.mem_filter.mpr ⟨(tb_7 (List.mem_of_getElem? (i := 111) rfl)), by decide +kernel⟩
set_option maxRecDepth 100000 in
theorem w_1916 : (Jvm.Cond.code ({ cls := "ScarArmyModel", name := "has", desc := "(II)Z" } : Jvm.MethodName) prog_14_method_4_code (2 : Nat) (Option.some Jvm.ClassFile.FieldType.boolean)) ∈ pT := List.mem_filter.mpr ⟨(tb_7 (List.mem_of_getElem? (i := 112) rfl)), by decide +kernel⟩
set_option maxRecDepth 100000 in
theorem w_1917 : (Jvm.Cond.methodLink "ScarArmyModel" (281 : Nat) ({ cls := "ScarArmyModel", name := "isEar", desc := "(I)Z" } : Jvm.MethodName)) ∈ pT := List.mem_filter.mpr ⟨(tb_7 (List.mem_of_getElem? (i := 113) rfl)), by decide +kernel⟩
set_option maxRecDepth 100000 in
theorem w_1918 : (Jvm.Cond.static ({ cls := "ScarArmyModel", name := "isEar", desc := "(I)Z" } : Jvm.MethodName)) ∈ pT := List.mem_filter.mpr ⟨(tb_7 (List.mem_of_getElem? (i := 114) rfl)), by decide +kernel⟩
set_option maxRecDepth 100000 in
theorem w_1919 : (Jvm.Cond.code ({ cls := "ScarArmyModel", name := "isEar", desc := "(I)Z" } : Jvm.MethodName) prog_14_method_59_code (1 : Nat) (Option.some Jvm.ClassFile.FieldType.boolean)) ∈ pT := List.mem_filter.mpr ⟨(tb_7 (List.mem_of_getElem? (i := 115) rfl)), by decide +kernel⟩
set_option maxRecDepth 100000 in
theorem w_1920 : (Jvm.Cond.methodLink "ScarArmyModel" (333 : Nat) ({ cls := "ScarArmyModel", name := "skinsOf", desc := "(I)I" } : Jvm.MethodName)) ∈ pT := List.mem_filter.mpr ⟨(tb_7 (List.mem_of_getElem? (i := 116) rfl)), by decide +kernel⟩
set_option maxRecDepth 100000 in
theorem w_1922 : (Jvm.Cond.instanceMethod ({ cls := "ScarArmyModel", name := "skinsOf", desc := "(I)I" } : Jvm.MethodName)) ∈ pT := List.mem_filter.mpr ⟨(tb_7 (List.mem_of_getElem? (i := 118) rfl)), by decide +kernel⟩
set_option maxRecDepth 100000 in
theorem w_1923 : (Jvm.Cond.code ({ cls := "ScarArmyModel", name := "skinsOf", desc := "(I)I" } : Jvm.MethodName) prog_14_method_74_code (6 : Nat) (Option.some Jvm.ClassFile.FieldType.int)) ∈ pT := List.mem_filter.mpr ⟨(tb_7 (List.mem_of_getElem? (i := 119) rfl)), by decide +kernel⟩
set_option maxRecDepth 100000 in
theorem w_1924 : (Jvm.Cond.methodLink "ScarArmyModel" (294 : Nat) ({ cls := "java/lang/Math", name := "max", desc := "(II)I" } : Jvm.MethodName)) ∈ pT := List.mem_filter.mpr ⟨(tb_7 (List.mem_of_getElem? (i := 120) rfl)), by decide +kernel⟩
set_option maxRecDepth 100000 in
theorem w_1928 : (Jvm.Cond.code ({ cls := "ScarArmyModel", name := "man", desc := "(II)I" } : Jvm.MethodName) prog_14_method_79_code (3 : Nat) (Option.some Jvm.ClassFile.FieldType.int)) ∈ pT := List.mem_filter.mpr ⟨(tb_7 (List.mem_of_getElem? (i := 124) rfl)), by decide +kernel⟩
set_option maxRecDepth 100000 in
theorem w_1929 : (Jvm.Cond.methodLink "ScarArmyModel" (339 : Nat) ({ cls := "ScarArmyModel", name := "noMan", desc := "(I)Z" } : Jvm.MethodName)) ∈ pT := List.mem_filter.mpr ⟨(tb_7 (List.mem_of_getElem? (i := 125) rfl)), by decide +kernel⟩
set_option maxRecDepth 100000 in
theorem w_1931 : (Jvm.Cond.instanceMethod ({ cls := "ScarArmyModel", name := "noMan", desc := "(I)Z" } : Jvm.MethodName)) ∈ pT := List.mem_filter.mpr ⟨(tb_7 (List.mem_of_getElem? (i := 127) rfl)), by decide +kernel⟩
set_option maxRecDepth 100000 in
theorem w_1932 : (Jvm.Cond.code ({ cls := "ScarArmyModel", name := "noMan", desc := "(I)Z" } : Jvm.MethodName) prog_14_method_20_code (2 : Nat) (Option.some Jvm.ClassFile.FieldType.boolean)) ∈ pT := List.mem_filter.mpr ⟨(tb_7 (List.mem_of_getElem? (i := 128) rfl)), by decide +kernel⟩
set_option maxRecDepth 100000 in
theorem w_1933 : (Jvm.Cond.methodLink "ScarArmyModel" (311 : Nat) ({ cls := "ScarArmyModel", name := "borne", desc := "(I)I" } : Jvm.MethodName)) ∈ pT := List.mem_filter.mpr ⟨(tb_7 (List.mem_of_getElem? (i := 129) rfl)), by decide +kernel⟩
set_option maxRecDepth 100000 in
theorem w_1935 : (Jvm.Cond.instanceMethod ({ cls := "ScarArmyModel", name := "borne", desc := "(I)I" } : Jvm.MethodName)) ∈ pT := List.mem_filter.mpr ⟨(tb_7 (List.mem_of_getElem? (i := 131) rfl)), by decide +kernel⟩
set_option maxRecDepth 100000 in
theorem w_1936 : (Jvm.Cond.code ({ cls := "ScarArmyModel", name := "borne", desc := "(I)I" } : Jvm.MethodName) prog_14_method_66_code (4 : Nat) (Option.some Jvm.ClassFile.FieldType.int)) ∈ pT := List.mem_filter.mpr ⟨(tb_7 (List.mem_of_getElem? (i := 132) rfl)), by decide +kernel⟩
set_option maxRecDepth 100000 in
theorem w_1937 : (Jvm.Cond.methodLink "ScarArmyModel" (342 : Nat) ({ cls := "ScarArmyModel", name := "looksOf", desc := "(I)I" } : Jvm.MethodName)) ∈ pT := List.mem_filter.mpr ⟨(tb_7 (List.mem_of_getElem? (i := 133) rfl)), by decide +kernel⟩
set_option maxRecDepth 100000 in
theorem w_1939 : (Jvm.Cond.instanceMethod ({ cls := "ScarArmyModel", name := "looksOf", desc := "(I)I" } : Jvm.MethodName)) ∈ pT := List.mem_filter.mpr ⟨(tb_7 (List.mem_of_getElem? (i := 135) rfl)), by decide +kernel⟩
set_option maxRecDepth 100000 in
theorem w_1940 : (Jvm.Cond.code ({ cls := "ScarArmyModel", name := "looksOf", desc := "(I)I" } : Jvm.MethodName) prog_14_method_70_code (2 : Nat) (Option.some Jvm.ClassFile.FieldType.int)) ∈ pT := List.mem_filter.mpr ⟨(tb_7 (List.mem_of_getElem? (i := 136) rfl)), by decide +kernel⟩
set_option maxRecDepth 100000 in
theorem w_1941 : (Jvm.Cond.methodLink "ScarArmyModel" (308 : Nat) ({ cls := "ScarArmyModel", name := "plainLooks", desc := "(I)I" } : Jvm.MethodName)) ∈ pT := List.mem_filter.mpr ⟨(tb_7 (List.mem_of_getElem? (i := 137) rfl)), by decide +kernel⟩
set_option maxRecDepth 100000 in
theorem w_1943 : (Jvm.Cond.instanceMethod ({ cls := "ScarArmyModel", name := "plainLooks", desc := "(I)I" } : Jvm.MethodName)) ∈ pT := List.mem_filter.mpr ⟨(tb_7 (List.mem_of_getElem? (i := 139) rfl)), by decide +kernel⟩
set_option maxRecDepth 100000 in
theorem w_1944 : (Jvm.Cond.code ({ cls := "ScarArmyModel", name := "plainLooks", desc := "(I)I" } : Jvm.MethodName) prog_14_method_67_code (4 : Nat) (Option.some Jvm.ClassFile.FieldType.int)) ∈ pT := List.mem_filter.mpr ⟨(tb_7 (List.mem_of_getElem? (i := 140) rfl)), by decide +kernel⟩
set_option maxRecDepth 100000 in
theorem w_1945 : (Jvm.Cond.methodLink "ScarArmyModel" (302 : Nat) ({ cls := "ScarArmyModel", name := "worthOf", desc := "(I)I" } : Jvm.MethodName)) ∈ pT := List.mem_filter.mpr ⟨(tb_7 (List.mem_of_getElem? (i := 141) rfl)), by decide +kernel⟩
set_option maxRecDepth 100000 in
theorem w_1947 : (Jvm.Cond.instanceMethod ({ cls := "ScarArmyModel", name := "worthOf", desc := "(I)I" } : Jvm.MethodName)) ∈ pT := List.mem_filter.mpr ⟨(tb_7 (List.mem_of_getElem? (i := 143) rfl)), by decide +kernel⟩
set_option maxRecDepth 100000 in
theorem w_1948 : (Jvm.Cond.code ({ cls := "ScarArmyModel", name := "worthOf", desc := "(I)I" } : Jvm.MethodName) prog_14_method_65_code (2 : Nat) (Option.some Jvm.ClassFile.FieldType.int)) ∈ pT := List.mem_filter.mpr ⟨(tb_7 (List.mem_of_getElem? (i := 144) rfl)), by decide +kernel⟩
set_option maxRecDepth 100000 in
theorem w_1949 : (Jvm.Cond.methodLink "ScarArmyModel" (299 : Nat) ({ cls := "ScarArmyModel", name := "worthBy", desc := "(II)I" } : Jvm.MethodName)) ∈ pT := List.mem_filter.mpr ⟨(tb_7 (List.mem_of_getElem? (i := 145) rfl)), by decide +kernel⟩
set_option maxRecDepth 100000 in
theorem w_1951 : (Jvm.Cond.instanceMethod ({ cls := "ScarArmyModel", name := "worthBy", desc := "(II)I" } : Jvm.MethodName)) ∈ pT := List.mem_filter.mpr ⟨(tb_7 (List.mem_of_getElem? (i := 147) rfl)), by decide +kernel⟩
set_option maxRecDepth 100000 in
theorem w_1952 : (Jvm.Cond.code ({ cls := "ScarArmyModel", name := "worthBy", desc := "(II)I" } : Jvm.MethodName) prog_14_method_64_code (6 : Nat) (Option.some Jvm.ClassFile.FieldType.int)) ∈ pT := List.mem_filter.mpr ⟨(tb_7 (List.mem_of_getElem? (i := 148) rfl)), by decide +kernel⟩
set_option maxRecDepth 100000 in
theorem w_1953 : (Jvm.Cond.methodLink "ScarArmyModel" (314 : Nat) ({ cls := "ScarArmyModel", name := "earsOf", desc := "(I)I" } : Jvm.MethodName)) ∈ pT := List.mem_filter.mpr ⟨(tb_7 (List.mem_of_getElem? (i := 149) rfl)), by decide +kernel⟩
set_option maxRecDepth 100000 in
theorem w_1955 : (Jvm.Cond.instanceMethod ({ cls := "ScarArmyModel", name := "earsOf", desc := "(I)I" } : Jvm.MethodName)) ∈ pT := List.mem_filter.mpr ⟨(tb_7 (List.mem_of_getElem? (i := 151) rfl)), by decide +kernel⟩
set_option maxRecDepth 100000 in
theorem w_1956 : (Jvm.Cond.code ({ cls := "ScarArmyModel", name := "earsOf", desc := "(I)I" } : Jvm.MethodName) prog_14_method_69_code (3 : Nat) (Option.some Jvm.ClassFile.FieldType.int)) ∈ pT := List.mem_filter.mpr ⟨(tb_7 (List.mem_of_getElem? (i := 152) rfl)), by decide +kernel⟩
set_option maxRecDepth 100000 in
theorem w_1957 : (Jvm.Cond.methodLink "ScarArmyModel" (305 : Nat) ({ cls := "ScarArmyModel", name := "placesOf", desc := "(I)I" } : Jvm.MethodName)) ∈ pT := List.mem_filter.mpr ⟨(tb_7 (List.mem_of_getElem? (i := 153) rfl)), by decide +kernel⟩
set_option maxRecDepth 100000 in
theorem w_1959 : (Jvm.Cond.instanceMethod ({ cls := "ScarArmyModel", name := "placesOf", desc := "(I)I" } : Jvm.MethodName)) ∈ pT := List.mem_filter.mpr ⟨(tb_7 (List.mem_of_getElem? (i := 155) rfl)), by decide +kernel⟩
set_option maxRecDepth 100000 in
theorem w_1960 : (Jvm.Cond.code ({ cls := "ScarArmyModel", name := "placesOf", desc := "(I)I" } : Jvm.MethodName) prog_14_method_68_code (4 : Nat) (Option.some Jvm.ClassFile.FieldType.int)) ∈ pT := List.mem_filter.mpr ⟨(tb_7 (List.mem_of_getElem? (i := 156) rfl)), by decide +kernel⟩
set_option maxRecDepth 100000 in
theorem w_1961 : (Jvm.Cond.methodLink "ScarArmyModel" (345 : Nat) ({ cls := "ScarArmyModel", name := "pensionOf", desc := "(I)I" } : Jvm.MethodName)) ∈ pT := List.mem_filter.mpr ⟨(tb_7 (List.mem_of_getElem? (i := 157) rfl)), by decide +kernel⟩
set_option maxRecDepth 100000 in
theorem w_1963 : (Jvm.Cond.instanceMethod ({ cls := "ScarArmyModel", name := "pensionOf", desc := "(I)I" } : Jvm.MethodName)) ∈ pT := List.mem_filter.mpr ⟨(tb_7 (List.mem_of_getElem? (i := 159) rfl)), by decide +kernel⟩
set_option maxRecDepth 100000 in
theorem w_1964 : (Jvm.Cond.code ({ cls := "ScarArmyModel", name := "pensionOf", desc := "(I)I" } : Jvm.MethodName) prog_14_method_71_code (4 : Nat) (Option.some Jvm.ClassFile.FieldType.int)) ∈ pT := List.mem_filter.mpr ⟨(tb_7 (List.mem_of_getElem? (i := 160) rfl)), by decide +kernel⟩
set_option maxRecDepth 100000 in
theorem w_1965 : (Jvm.Cond.methodLink "ScarArmyModel" (348 : Nat) ({ cls := "ScarArmyModel", name := "cycleOf", desc := "(I)I" } : Jvm.MethodName)) ∈ pT := List.mem_filter.mpr ⟨(tb_7 (List.mem_of_getElem? (i := 161) rfl)), by decide +kernel⟩
set_option maxRecDepth 100000 in
theorem w_1967 : (Jvm.Cond.instanceMethod ({ cls := "ScarArmyModel", name := "cycleOf", desc := "(I)I" } : Jvm.MethodName)) ∈ pT := List.mem_filter.mpr ⟨(tb_7 (List.mem_of_getElem? (i := 163) rfl)), by decide +kernel⟩
set_option maxRecDepth 100000 in
theorem w_1968 : (Jvm.Cond.code ({ cls := "ScarArmyModel", name := "cycleOf", desc := "(I)I" } : Jvm.MethodName) prog_14_method_78_code (4 : Nat) (Option.some Jvm.ClassFile.FieldType.int)) ∈ pT := List.mem_filter.mpr ⟨(tb_7 (List.mem_of_getElem? (i := 164) rfl)), by decide +kernel⟩
set_option maxRecDepth 100000 in
theorem w_1969 : (Jvm.Cond.methodLink "ScarArmyModel" (351 : Nat) ({ cls := "ScarArmyModel", name := "heldBy", desc := "(I)I" } : Jvm.MethodName)) ∈ pT := List.mem_filter.mpr ⟨(tb_7 (List.mem_of_getElem? (i := 165) rfl)), by decide +kernel⟩
set_option maxRecDepth 100000 in
theorem w_1971 : (Jvm.Cond.instanceMethod ({ cls := "ScarArmyModel", name := "heldBy", desc := "(I)I" } : Jvm.MethodName)) ∈ pT := List.mem_filter.mpr ⟨(tb_7 (List.mem_of_getElem? (i := 167) rfl)), by decide +kernel⟩
set_option maxRecDepth 100000 in
theorem w_1972 : (Jvm.Cond.code ({ cls := "ScarArmyModel", name := "heldBy", desc := "(I)I" } : Jvm.MethodName) prog_14_method_77_code (4 : Nat) (Option.some Jvm.ClassFile.FieldType.int)) ∈ pT := List.mem_filter.mpr ⟨(tb_7 (List.mem_of_getElem? (i := 168) rfl)), by decide +kernel⟩
set_option maxRecDepth 100000 in
theorem w_1973 : (Jvm.Cond.methodLink "ScarArmyModel" (336 : Nat) ({ cls := "ScarArmyModel", name := "scarsOf", desc := "(I)I" } : Jvm.MethodName)) ∈ pT := List.mem_filter.mpr ⟨(tb_7 (List.mem_of_getElem? (i := 169) rfl)), by decide +kernel⟩
set_option maxRecDepth 100000 in
theorem w_1975 : (Jvm.Cond.instanceMethod ({ cls := "ScarArmyModel", name := "scarsOf", desc := "(I)I" } : Jvm.MethodName)) ∈ pT := List.mem_filter.mpr ⟨(tb_7 (List.mem_of_getElem? (i := 171) rfl)), by decide +kernel⟩
set_option maxRecDepth 100000 in
theorem w_1976 : (Jvm.Cond.code ({ cls := "ScarArmyModel", name := "scarsOf", desc := "(I)I" } : Jvm.MethodName) prog_14_method_76_code (4 : Nat) (Option.some Jvm.ClassFile.FieldType.int)) ∈ pT := List.mem_filter.mpr ⟨(tb_7 (List.mem_of_getElem? (i := 172) rfl)), by decide +kernel⟩
set_option maxRecDepth 100000 in
theorem w_1980 : (Jvm.Cond.code ({ cls := "ScarArmyModel", name := "scar", desc := "(II)I" } : Jvm.MethodName) prog_14_method_84_code (3 : Nat) (Option.some Jvm.ClassFile.FieldType.int)) ∈ pT := List.mem_filter.mpr ⟨(tb_7 (List.mem_of_getElem? (i := 176) rfl)), by decide +kernel⟩
set_option maxRecDepth 100000 in
theorem w_1981 : (Jvm.Cond.methodLink "ScarArmyModel" (360 : Nat) ({ cls := "ScarArmyModel", name := "noScar", desc := "(I)Z" } : Jvm.MethodName)) ∈ pT := List.mem_filter.mpr ⟨(tb_7 (List.mem_of_getElem? (i := 177) rfl)), by decide +kernel⟩
set_option maxRecDepth 100000 in
theorem w_1983 : (Jvm.Cond.instanceMethod ({ cls := "ScarArmyModel", name := "noScar", desc := "(I)Z" } : Jvm.MethodName)) ∈ pT := List.mem_filter.mpr ⟨(tb_7 (List.mem_of_getElem? (i := 179) rfl)), by decide +kernel⟩
set_option maxRecDepth 100000 in
theorem w_1984 : (Jvm.Cond.code ({ cls := "ScarArmyModel", name := "noScar", desc := "(I)Z" } : Jvm.MethodName) prog_14_method_21_code (2 : Nat) (Option.some Jvm.ClassFile.FieldType.boolean)) ∈ pT := List.mem_filter.mpr ⟨(tb_7 (List.mem_of_getElem? (i := 180) rfl)), by decide +kernel⟩
set_option maxRecDepth 100000 in
theorem w_1985 : (Jvm.Cond.methodLink "ScarArmyModel" (363 : Nat) ({ cls := "ScarArmyModel", name := "priceOf", desc := "(I)I" } : Jvm.MethodName)) ∈ pT := List.mem_filter.mpr ⟨(tb_7 (List.mem_of_getElem? (i := 181) rfl)), by decide +kernel⟩
set_option maxRecDepth 100000 in
theorem w_1987 : (Jvm.Cond.instanceMethod ({ cls := "ScarArmyModel", name := "priceOf", desc := "(I)I" } : Jvm.MethodName)) ∈ pT := List.mem_filter.mpr ⟨(tb_7 (List.mem_of_getElem? (i := 183) rfl)), by decide +kernel⟩
set_option maxRecDepth 100000 in
theorem w_1988 : (Jvm.Cond.code ({ cls := "ScarArmyModel", name := "priceOf", desc := "(I)I" } : Jvm.MethodName) prog_14_method_82_code (2 : Nat) (Option.some Jvm.ClassFile.FieldType.int)) ∈ pT := List.mem_filter.mpr ⟨(tb_7 (List.mem_of_getElem? (i := 184) rfl)), by decide +kernel⟩
set_option maxRecDepth 100000 in
theorem w_1989 : (Jvm.Cond.methodLink "ScarArmyModel" (357 : Nat) ({ cls := "ScarArmyModel", name := "handedOver", desc := "(I)I" } : Jvm.MethodName)) ∈ pT := List.mem_filter.mpr ⟨(tb_7 (List.mem_of_getElem? (i := 185) rfl)), by decide +kernel⟩
set_option maxRecDepth 100000 in
theorem w_1991 : (Jvm.Cond.instanceMethod ({ cls := "ScarArmyModel", name := "handedOver", desc := "(I)I" } : Jvm.MethodName)) ∈ pT := List.mem_filter.mpr ⟨(tb_7 (List.mem_of_getElem? (i := 187) rfl)), by decide +kernel⟩
set_option maxRecDepth 100000 in
theorem w_1992 : (Jvm.Cond.code ({ cls := "ScarArmyModel", name := "handedOver", desc := "(I)I" } : Jvm.MethodName) prog_14_method_81_code (4 : Nat) (Option.some Jvm.ClassFile.FieldType.int)) ∈ pT := List.mem_filter.mpr ⟨(tb_7 (List.mem_of_getElem? (i := 188) rfl)), by decide +kernel⟩
set_option maxRecDepth 100000 in
theorem w_1993 : (Jvm.Cond.methodLink "ScarArmyModel" (354 : Nat) ({ cls := "ScarArmyModel", name := "ofLog", desc := "(II)I" } : Jvm.MethodName)) ∈ pT := List.mem_filter.mpr ⟨(tb_7 (List.mem_of_getElem? (i := 189) rfl)), by decide +kernel⟩
set_option maxRecDepth 100000 in
theorem w_1995 : (Jvm.Cond.instanceMethod ({ cls := "ScarArmyModel", name := "ofLog", desc := "(II)I" } : Jvm.MethodName)) ∈ pT := List.mem_filter.mpr ⟨(tb_7 (List.mem_of_getElem? (i := 191) rfl)), by decide +kernel⟩
set_option maxRecDepth 100000 in
theorem w_1996 : (Jvm.Cond.code ({ cls := "ScarArmyModel", name := "ofLog", desc := "(II)I" } : Jvm.MethodName) prog_14_method_80_code (3 : Nat) (Option.some Jvm.ClassFile.FieldType.int)) ∈ pT := List.mem_filter.mpr ⟨(tb_7 (List.mem_of_getElem? (i := 192) rfl)), by decide +kernel⟩
set_option maxRecDepth 100000 in
theorem w_1997 : (Jvm.Cond.methodLink "ScarArmyModel" (366 : Nat) ({ cls := "ScarArmyModel", name := "threadOf", desc := "(I)I" } : Jvm.MethodName)) ∈ pT := List.mem_filter.mpr ⟨(tb_7 (List.mem_of_getElem? (i := 193) rfl)), by decide +kernel⟩
set_option maxRecDepth 100000 in
theorem w_1999 : (Jvm.Cond.instanceMethod ({ cls := "ScarArmyModel", name := "threadOf", desc := "(I)I" } : Jvm.MethodName)) ∈ pT := List.mem_filter.mpr ⟨(tb_7 (List.mem_of_getElem? (i := 195) rfl)), by decide +kernel⟩
set_option maxRecDepth 100000 in
theorem w_2000 : (Jvm.Cond.code ({ cls := "ScarArmyModel", name := "threadOf", desc := "(I)I" } : Jvm.MethodName) prog_14_method_83_code (4 : Nat) (Option.some Jvm.ClassFile.FieldType.int)) ∈ pT := List.mem_filter.mpr ⟨(tb_7 (List.mem_of_getElem? (i := 196) rfl)), by decide +kernel⟩
set_option maxRecDepth 100000 in
theorem w_2004 : (Jvm.Cond.code ({ cls := "ScarArmyModel", name := "who", desc := "(I)I" } : Jvm.MethodName) prog_14_method_86_code (2 : Nat) (Option.some Jvm.ClassFile.FieldType.int)) ∈ pT := List.mem_filter.mpr ⟨(tb_7 (List.mem_of_getElem? (i := 200) rfl)), by decide +kernel⟩
set_option maxRecDepth 100000 in
theorem w_2005 : (Jvm.Cond.methodLink "ScarArmyModel" (369 : Nat) ({ cls := "ScarArmyModel", name := "whoIs", desc := "(I)I" } : Jvm.MethodName)) ∈ pT := List.mem_filter.mpr ⟨(tb_7 (List.mem_of_getElem? (i := 201) rfl)), by decide +kernel⟩
set_option maxRecDepth 100000 in
theorem w_2007 : (Jvm.Cond.instanceMethod ({ cls := "ScarArmyModel", name := "whoIs", desc := "(I)I" } : Jvm.MethodName)) ∈ pT := List.mem_filter.mpr ⟨(tb_7 (List.mem_of_getElem? (i := 203) rfl)), by decide +kernel⟩
set_option maxRecDepth 100000 in
theorem w_2008 : (Jvm.Cond.code ({ cls := "ScarArmyModel", name := "whoIs", desc := "(I)I" } : Jvm.MethodName) prog_14_method_85_code (3 : Nat) (Option.some Jvm.ClassFile.FieldType.int)) ∈ pT := List.mem_filter.mpr ⟨(tb_7 (List.mem_of_getElem? (i := 204) rfl)), by decide +kernel⟩
set_option maxRecDepth 100000 in
theorem w_2012 : (Jvm.Cond.code ({ cls := "ScarArmyModel", name := "hand", desc := "(III)I" } : Jvm.MethodName) prog_14_method_90_code (5 : Nat) (Option.some Jvm.ClassFile.FieldType.int)) ∈ pT := List.mem_filter.mpr ⟨(tb_7 (List.mem_of_getElem? (i := 208) rfl)), by decide +kernel⟩
set_option maxRecDepth 100000 in
theorem w_2013 : (Jvm.Cond.methodLink "ScarArmyModel" (382 : Nat) ({ cls := "ScarArmyModel", name := "remembers", desc := "()V" } : Jvm.MethodName)) ∈ pT := List.mem_filter.mpr ⟨(tb_7 (List.mem_of_getElem? (i := 209) rfl)), by decide +kernel⟩
set_option maxRecDepth 100000 in
theorem w_2015 : (Jvm.Cond.instanceMethod ({ cls := "ScarArmyModel", name := "remembers", desc := "()V" } : Jvm.MethodName)) ∈ pT := List.mem_filter.mpr ⟨(tb_7 (List.mem_of_getElem? (i := 211) rfl)), by decide +kernel⟩
set_option maxRecDepth 100000 in
theorem w_2016 : (Jvm.Cond.code ({ cls := "ScarArmyModel", name := "remembers", desc := "()V" } : Jvm.MethodName) prog_14_method_8_code (2 : Nat) (Option.none : Option Jvm.ClassFile.FieldType)) ∈ pT := List.mem_filter.mpr ⟨(tb_7 (List.mem_of_getElem? (i := 212) rfl)), by decide +kernel⟩
set_option maxRecDepth 100000 in
theorem w_2017 : (Jvm.Cond.methodLink "ScarArmyModel" (385 : Nat) ({ cls := "ScarArmyModel", name := "goesOver", desc := "(III)V" } : Jvm.MethodName)) ∈ pT := List.mem_filter.mpr ⟨(tb_7 (List.mem_of_getElem? (i := 213) rfl)), by decide +kernel⟩
set_option maxRecDepth 100000 in
theorem w_2019 : (Jvm.Cond.instanceMethod ({ cls := "ScarArmyModel", name := "goesOver", desc := "(III)V" } : Jvm.MethodName)) ∈ pT := List.mem_filter.mpr ⟨(tb_7 (List.mem_of_getElem? (i := 215) rfl)), by decide +kernel⟩
set_option maxRecDepth 100000 in
theorem w_2020 : (Jvm.Cond.code ({ cls := "ScarArmyModel", name := "goesOver", desc := "(III)V" } : Jvm.MethodName) prog_14_method_89_code (6 : Nat) (Option.none : Option Jvm.ClassFile.FieldType)) ∈ pT := List.mem_filter.mpr ⟨(tb_7 (List.mem_of_getElem? (i := 216) rfl)), by decide +kernel⟩
set_option maxRecDepth 100000 in
theorem w_2021 : (Jvm.Cond.methodLink "ScarArmyModel" (375 : Nat) ({ cls := "ScarArmyModel", name := "gets", desc := "(II)V" } : Jvm.MethodName)) ∈ pT := List.mem_filter.mpr ⟨(tb_7 (List.mem_of_getElem? (i := 217) rfl)), by decide +kernel⟩
set_option maxRecDepth 100000 in
theorem w_2023 : (Jvm.Cond.instanceMethod ({ cls := "ScarArmyModel", name := "gets", desc := "(II)V" } : Jvm.MethodName)) ∈ pT := List.mem_filter.mpr ⟨(tb_7 (List.mem_of_getElem? (i := 219) rfl)), by decide +kernel⟩
set_option maxRecDepth 100000 in
theorem w_2024 : (Jvm.Cond.code ({ cls := "ScarArmyModel", name := "gets", desc := "(II)V" } : Jvm.MethodName) prog_14_method_87_code (3 : Nat) (Option.none : Option Jvm.ClassFile.FieldType)) ∈ pT := List.mem_filter.mpr ⟨(tb_7 (List.mem_of_getElem? (i := 220) rfl)), by decide +kernel⟩
set_option maxRecDepth 100000 in
theorem w_2025 : (Jvm.Cond.methodLink "ScarArmyModel" (372 : Nat) ({ cls := "java/lang/Math", name := "min", desc := "(II)I" } : Jvm.MethodName)) ∈ pT := List.mem_filter.mpr ⟨(tb_7 (List.mem_of_getElem? (i := 221) rfl)), by decide +kernel⟩
set_option maxRecDepth 100000 in
theorem w_2026 : (Jvm.Cond.methodLink "ScarArmyModel" (378 : Nat) ({ cls := "ScarArmyModel", name := "tells", desc := "(IIII)V" } : Jvm.MethodName)) ∈ pT := List.mem_filter.mpr ⟨(tb_7 (List.mem_of_getElem? (i := 222) rfl)), by decide +kernel⟩
set_option maxRecDepth 100000 in
theorem w_2028 : (Jvm.Cond.instanceMethod ({ cls := "ScarArmyModel", name := "tells", desc := "(IIII)V" } : Jvm.MethodName)) ∈ pT := List.mem_filter.mpr ⟨(tb_7 (List.mem_of_getElem? (i := 224) rfl)), by decide +kernel⟩
set_option maxRecDepth 100000 in
theorem w_2029 : (Jvm.Cond.code ({ cls := "ScarArmyModel", name := "tells", desc := "(IIII)V" } : Jvm.MethodName) prog_14_method_88_code (6 : Nat) (Option.none : Option Jvm.ClassFile.FieldType)) ∈ pT := List.mem_filter.mpr ⟨(tb_7 (List.mem_of_getElem? (i := 225) rfl)), by decide +kernel⟩
set_option maxRecDepth 100000 in
theorem w_2033 : (Jvm.Cond.code ({ cls := "ScarArmyModel", name := "polish", desc := "(II)I" } : Jvm.MethodName) prog_14_method_91_code (3 : Nat) (Option.some Jvm.ClassFile.FieldType.int)) ∈ pT := List.mem_filter.mpr ⟨(tb_7 (List.mem_of_getElem? (i := 229) rfl)), by decide +kernel⟩
set_option maxRecDepth 100000 in
theorem w_2037 : (Jvm.Cond.code ({ cls := "ScarArmyModel", name := "die", desc := "(I)I" } : Jvm.MethodName) prog_14_method_92_code (3 : Nat) (Option.some Jvm.ClassFile.FieldType.int)) ∈ pT := List.mem_filter.mpr ⟨(tb_7 (List.mem_of_getElem? (i := 233) rfl)), by decide +kernel⟩
set_option maxRecDepth 100000 in
theorem w_2041 : (Jvm.Cond.code ({ cls := "ScarArmyModel", name := "widow", desc := "(II)I" } : Jvm.MethodName) prog_14_method_93_code (5 : Nat) (Option.some Jvm.ClassFile.FieldType.int)) ∈ pT := List.mem_filter.mpr ⟨(tb_7 (List.mem_of_getElem? (i := 237) rfl)), by decide +kernel⟩
set_option maxRecDepth 100000 in
theorem w_2042 : (Jvm.Cond.methodLink "ScarArmyModel" (389 : Nat) ({ cls := "java/lang/Integer", name := "bitCount", desc := "(I)I" } : Jvm.MethodName)) ∈ pT := List.mem_filter.mpr ⟨(tb_7 (List.mem_of_getElem? (i := 238) rfl)), by decide +kernel⟩
set_option maxRecDepth 100000 in
theorem w_2046 : (Jvm.Cond.code ({ cls := "ScarArmyModel", name := "wound", desc := "(IIIII)I" } : Jvm.MethodName) prog_14_method_94_code (6 : Nat) (Option.some Jvm.ClassFile.FieldType.int)) ∈ pT := List.mem_filter.mpr ⟨(tb_8 (List.mem_of_getElem? (i := 2) rfl)), by decide +kernel⟩
set_option maxRecDepth 100000 in
theorem w_2050 : (Jvm.Cond.code ({ cls := "ScarArmyModel", name := "days", desc := "(I)I" } : Jvm.MethodName) prog_14_method_97_code (2 : Nat) (Option.some Jvm.ClassFile.FieldType.int)) ∈ pT := List.mem_filter.mpr ⟨(tb_8 (List.mem_of_getElem? (i := 6) rfl)), by decide +kernel⟩
set_option maxRecDepth 100000 in
theorem w_2051 : (Jvm.Cond.methodLink "ScarArmyModel" (397 : Nat) ({ cls := "ScarArmyModel", name := "goes", desc := "(I)I" } : Jvm.MethodName)) ∈ pT := List.mem_filter.mpr ⟨(tb_8 (List.mem_of_getElem? (i := 7) rfl)), by decide +kernel⟩
set_option maxRecDepth 100000 in
theorem w_2053 : (Jvm.Cond.instanceMethod ({ cls := "ScarArmyModel", name := "goes", desc := "(I)I" } : Jvm.MethodName)) ∈ pT := List.mem_filter.mpr ⟨(tb_8 (List.mem_of_getElem? (i := 9) rfl)), by decide +kernel⟩
set_option maxRecDepth 100000 in
theorem w_2054 : (Jvm.Cond.code ({ cls := "ScarArmyModel", name := "goes", desc := "(I)I" } : Jvm.MethodName) prog_14_method_96_code (4 : Nat) (Option.some Jvm.ClassFile.FieldType.int)) ∈ pT := List.mem_filter.mpr ⟨(tb_8 (List.mem_of_getElem? (i := 10) rfl)), by decide +kernel⟩
set_option maxRecDepth 100000 in
theorem w_2055 : (Jvm.Cond.methodLink "ScarArmyModel" (394 : Nat) ({ cls := "ScarArmyModel", name := "month", desc := "()I" } : Jvm.MethodName)) ∈ pT := List.mem_filter.mpr ⟨(tb_8 (List.mem_of_getElem? (i := 11) rfl)), by decide +kernel⟩
set_option maxRecDepth 100000 in
theorem w_2057 : (Jvm.Cond.instanceMethod ({ cls := "ScarArmyModel", name := "month", desc := "()I" } : Jvm.MethodName)) ∈ pT := List.mem_filter.mpr ⟨(tb_8 (List.mem_of_getElem? (i := 13) rfl)), by decide +kernel⟩
set_option maxRecDepth 100000 in
theorem w_2058 : (Jvm.Cond.code ({ cls := "ScarArmyModel", name := "month", desc := "()I" } : Jvm.MethodName) prog_14_method_95_code (4 : Nat) (Option.some Jvm.ClassFile.FieldType.int)) ∈ pT := List.mem_filter.mpr ⟨(tb_8 (List.mem_of_getElem? (i := 14) rfl)), by decide +kernel⟩
set_option maxRecDepth 100000 in
theorem w_2062 : (Jvm.Cond.code ({ cls := "ScarArmyModel", name := "swaps", desc := "()I" } : Jvm.MethodName) prog_14_method_98_code (3 : Nat) (Option.some Jvm.ClassFile.FieldType.int)) ∈ pT := List.mem_filter.mpr ⟨(tb_8 (List.mem_of_getElem? (i := 18) rfl)), by decide +kernel⟩
set_option maxRecDepth 100000 in
theorem w_2066 : (Jvm.Cond.code ({ cls := "ScarArmyModel", name := "his", desc := "(I)Z" } : Jvm.MethodName) prog_14_method_103_code (2 : Nat) (Option.some Jvm.ClassFile.FieldType.boolean)) ∈ pT := List.mem_filter.mpr ⟨(tb_8 (List.mem_of_getElem? (i := 22) rfl)), by decide +kernel⟩
set_option maxRecDepth 100000 in
theorem w_2067 : (Jvm.Cond.methodLink "ScarArmyModel" (409 : Nat) ({ cls := "ScarArmyModel", name := "allScars", desc := "(I)I" } : Jvm.MethodName)) ∈ pT := List.mem_filter.mpr ⟨(tb_8 (List.mem_of_getElem? (i := 23) rfl)), by decide +kernel⟩
set_option maxRecDepth 100000 in
theorem w_2069 : (Jvm.Cond.instanceMethod ({ cls := "ScarArmyModel", name := "allScars", desc := "(I)I" } : Jvm.MethodName)) ∈ pT := List.mem_filter.mpr ⟨(tb_8 (List.mem_of_getElem? (i := 25) rfl)), by decide +kernel⟩
set_option maxRecDepth 100000 in
theorem w_2070 : (Jvm.Cond.code ({ cls := "ScarArmyModel", name := "allScars", desc := "(I)I" } : Jvm.MethodName) prog_14_method_102_code (2 : Nat) (Option.some Jvm.ClassFile.FieldType.int)) ∈ pT := List.mem_filter.mpr ⟨(tb_8 (List.mem_of_getElem? (i := 26) rfl)), by decide +kernel⟩
set_option maxRecDepth 100000 in
theorem w_2071 : (Jvm.Cond.methodLink "ScarArmyModel" (412 : Nat) ({ cls := "ScarArmyModel", name := "areHis", desc := "(I)Z" } : Jvm.MethodName)) ∈ pT := List.mem_filter.mpr ⟨(tb_8 (List.mem_of_getElem? (i := 27) rfl)), by decide +kernel⟩
set_option maxRecDepth 100000 in
theorem w_2073 : (Jvm.Cond.instanceMethod ({ cls := "ScarArmyModel", name := "areHis", desc := "(I)Z" } : Jvm.MethodName)) ∈ pT := List.mem_filter.mpr ⟨(tb_8 (List.mem_of_getElem? (i := 29) rfl)), by decide +kernel⟩
set_option maxRecDepth 100000 in
theorem w_2074 : (Jvm.Cond.code ({ cls := "ScarArmyModel", name := "areHis", desc := "(I)Z" } : Jvm.MethodName) prog_14_method_101_code (5 : Nat) (Option.some Jvm.ClassFile.FieldType.boolean)) ∈ pT := List.mem_filter.mpr ⟨(tb_8 (List.mem_of_getElem? (i := 30) rfl)), by decide +kernel⟩
set_option maxRecDepth 100000 in
theorem w_2075 : (Jvm.Cond.methodLink "ScarArmyModel" (406 : Nat) ({ cls := "ScarArmyModel", name := "areBoth", desc := "(II)Z" } : Jvm.MethodName)) ∈ pT := List.mem_filter.mpr ⟨(tb_8 (List.mem_of_getElem? (i := 31) rfl)), by decide +kernel⟩
set_option maxRecDepth 100000 in
theorem w_2077 : (Jvm.Cond.instanceMethod ({ cls := "ScarArmyModel", name := "areBoth", desc := "(II)Z" } : Jvm.MethodName)) ∈ pT := List.mem_filter.mpr ⟨(tb_8 (List.mem_of_getElem? (i := 33) rfl)), by decide +kernel⟩
set_option maxRecDepth 100000 in
theorem w_2078 : (Jvm.Cond.code ({ cls := "ScarArmyModel", name := "areBoth", desc := "(II)Z" } : Jvm.MethodName) prog_14_method_100_code (3 : Nat) (Option.some Jvm.ClassFile.FieldType.boolean)) ∈ pT := List.mem_filter.mpr ⟨(tb_8 (List.mem_of_getElem? (i := 34) rfl)), by decide +kernel⟩
set_option maxRecDepth 100000 in
theorem w_2079 : (Jvm.Cond.methodLink "ScarArmyModel" (403 : Nat) ({ cls := "ScarArmyModel", name := "canBoth", desc := "(II)Z" } : Jvm.MethodName)) ∈ pT := List.mem_filter.mpr ⟨(tb_8 (List.mem_of_getElem? (i := 35) rfl)), by decide +kernel⟩
set_option maxRecDepth 100000 in
theorem w_2081 : (Jvm.Cond.instanceMethod ({ cls := "ScarArmyModel", name := "canBoth", desc := "(II)Z" } : Jvm.MethodName)) ∈ pT := List.mem_filter.mpr ⟨(tb_8 (List.mem_of_getElem? (i := 37) rfl)), by decide +kernel⟩
set_option maxRecDepth 100000 in
theorem w_2082 : (Jvm.Cond.code ({ cls := "ScarArmyModel", name := "canBoth", desc := "(II)Z" } : Jvm.MethodName) prog_14_method_99_code (3 : Nat) (Option.some Jvm.ClassFile.FieldType.boolean)) ∈ pT := List.mem_filter.mpr ⟨(tb_8 (List.mem_of_getElem? (i := 38) rfl)), by decide +kernel⟩
set_option maxRecDepth 100000 in
theorem w_2083 : (Jvm.Cond.methodLink "ScarArmyModel" (400 : Nat) ({ cls := "java/lang/Math", name := "abs", desc := "(I)I" } : Jvm.MethodName)) ∈ pT := List.mem_filter.mpr ⟨(tb_8 (List.mem_of_getElem? (i := 39) rfl)), by decide +kernel⟩
set_option maxRecDepth 100000 in
theorem w_2087 : (Jvm.Cond.code ({ cls := "ScarArmyModel", name := "largest", desc := "(IZ)I" } : Jvm.MethodName) prog_14_method_104_code (7 : Nat) (Option.some Jvm.ClassFile.FieldType.int)) ∈ pT := List.mem_filter.mpr ⟨(tb_8 (List.mem_of_getElem? (i := 43) rfl)), by decide +kernel⟩
set_option maxRecDepth 100000 in
theorem w_2091 : (Jvm.Cond.code ({ cls := "ScarArmyModel", name := "betrays", desc := "(I)I" } : Jvm.MethodName) prog_14_method_105_code (6 : Nat) (Option.some Jvm.ClassFile.FieldType.int)) ∈ pT := List.mem_filter.mpr ⟨(tb_8 (List.mem_of_getElem? (i := 47) rfl)), by decide +kernel⟩
set_option maxRecDepth 100000 in
theorem w_2095 : (Jvm.Cond.code ({ cls := "ScarArmyModel", name := "fewest", desc := "()I" } : Jvm.MethodName) prog_14_method_106_code (5 : Nat) (Option.some Jvm.ClassFile.FieldType.int)) ∈ pT := List.mem_filter.mpr ⟨(tb_8 (List.mem_of_getElem? (i := 51) rfl)), by decide +kernel⟩
set_option maxRecDepth 100000 in
theorem w_2099 : (Jvm.Cond.code ({ cls := "ScarArmyModel", name := "least", desc := "(IIZ)I" } : Jvm.MethodName) prog_14_method_111_code (10 : Nat) (Option.some Jvm.ClassFile.FieldType.int)) ∈ pT := List.mem_filter.mpr ⟨(tb_8 (List.mem_of_getElem? (i := 55) rfl)), by decide +kernel⟩
set_option maxRecDepth 100000 in
theorem w_2100 : (Jvm.Cond.methodLink "ScarArmyModel" (418 : Nat) ({ cls := "ScarArmyModel", name := "allOffered", desc := "(I)I" } : Jvm.MethodName)) ∈ pT := List.mem_filter.mpr ⟨(tb_8 (List.mem_of_getElem? (i := 56) rfl)), by decide +kernel⟩
set_option maxRecDepth 100000 in
theorem w_2102 : (Jvm.Cond.instanceMethod ({ cls := "ScarArmyModel", name := "allOffered", desc := "(I)I" } : Jvm.MethodName)) ∈ pT := List.mem_filter.mpr ⟨(tb_8 (List.mem_of_getElem? (i := 58) rfl)), by decide +kernel⟩
set_option maxRecDepth 100000 in
theorem w_2103 : (Jvm.Cond.code ({ cls := "ScarArmyModel", name := "allOffered", desc := "(I)I" } : Jvm.MethodName) prog_14_method_108_code (4 : Nat) (Option.some Jvm.ClassFile.FieldType.int)) ∈ pT := List.mem_filter.mpr ⟨(tb_8 (List.mem_of_getElem? (i := 59) rfl)), by decide +kernel⟩
set_option maxRecDepth 100000 in
theorem w_2104 : (Jvm.Cond.methodLink "ScarArmyModel" (415 : Nat) ({ cls := "ScarArmyModel", name := "isOffered", desc := "(II)Z" } : Jvm.MethodName)) ∈ pT := List.mem_filter.mpr ⟨(tb_8 (List.mem_of_getElem? (i := 60) rfl)), by decide +kernel⟩
set_option maxRecDepth 100000 in
theorem w_2106 : (Jvm.Cond.instanceMethod ({ cls := "ScarArmyModel", name := "isOffered", desc := "(II)Z" } : Jvm.MethodName)) ∈ pT := List.mem_filter.mpr ⟨(tb_8 (List.mem_of_getElem? (i := 62) rfl)), by decide +kernel⟩
set_option maxRecDepth 100000 in
theorem w_2107 : (Jvm.Cond.code ({ cls := "ScarArmyModel", name := "isOffered", desc := "(II)Z" } : Jvm.MethodName) prog_14_method_107_code (3 : Nat) (Option.some Jvm.ClassFile.FieldType.boolean)) ∈ pT := List.mem_filter.mpr ⟨(tb_8 (List.mem_of_getElem? (i := 63) rfl)), by decide +kernel⟩
set_option maxRecDepth 100000 in
theorem w_2108 : (Jvm.Cond.methodLink "ScarArmyModel" (421 : Nat) ({ cls := "ScarArmyModel", name := "laysOffers", desc := "(I)V" } : Jvm.MethodName)) ∈ pT := List.mem_filter.mpr ⟨(tb_8 (List.mem_of_getElem? (i := 64) rfl)), by decide +kernel⟩
set_option maxRecDepth 100000 in
theorem w_2110 : (Jvm.Cond.instanceMethod ({ cls := "ScarArmyModel", name := "laysOffers", desc := "(I)V" } : Jvm.MethodName)) ∈ pT := List.mem_filter.mpr ⟨(tb_8 (List.mem_of_getElem? (i := 66) rfl)), by decide +kernel⟩
set_option maxRecDepth 100000 in
theorem w_2111 : (Jvm.Cond.code ({ cls := "ScarArmyModel", name := "laysOffers", desc := "(I)V" } : Jvm.MethodName) prog_14_method_109_code (4 : Nat) (Option.none : Option Jvm.ClassFile.FieldType)) ∈ pT := List.mem_filter.mpr ⟨(tb_8 (List.mem_of_getElem? (i := 67) rfl)), by decide +kernel⟩
set_option maxRecDepth 100000 in
theorem w_2112 : (Jvm.Cond.methodLink "ScarArmyModel" (425 : Nat) ({ cls := "ScarArmyModel", name := "sumOf", desc := "([III)I" } : Jvm.MethodName)) ∈ pT := List.mem_filter.mpr ⟨(tb_8 (List.mem_of_getElem? (i := 68) rfl)), by decide +kernel⟩
set_option maxRecDepth 100000 in
theorem w_2113 : (Jvm.Cond.static ({ cls := "ScarArmyModel", name := "sumOf", desc := "([III)I" } : Jvm.MethodName)) ∈ pT := List.mem_filter.mpr ⟨(tb_8 (List.mem_of_getElem? (i := 69) rfl)), by decide +kernel⟩
set_option maxRecDepth 100000 in
theorem w_2114 : (Jvm.Cond.code ({ cls := "ScarArmyModel", name := "sumOf", desc := "([III)I" } : Jvm.MethodName) prog_14_method_110_code (5 : Nat) (Option.some Jvm.ClassFile.FieldType.int)) ∈ pT := List.mem_filter.mpr ⟨(tb_8 (List.mem_of_getElem? (i := 70) rfl)), by decide +kernel⟩
set_option maxRecDepth 100000 in
theorem w_2118 : (Jvm.Cond.code ({ cls := "ScarArmyModel", name := "gains", desc := "(II)I" } : Jvm.MethodName) prog_14_method_113_code (3 : Nat) (Option.some Jvm.ClassFile.FieldType.int)) ∈ pT := List.mem_filter.mpr ⟨(tb_8 (List.mem_of_getElem? (i := 74) rfl)), by decide +kernel⟩
set_option maxRecDepth 100000 in
theorem w_2119 : (Jvm.Cond.methodLink "ScarArmyModel" (429 : Nat) ({ cls := "ScarArmyModel", name := "gainsOf", desc := "(II)I" } : Jvm.MethodName)) ∈ pT := List.mem_filter.mpr ⟨(tb_8 (List.mem_of_getElem? (i := 75) rfl)), by decide +kernel⟩
set_option maxRecDepth 100000 in
theorem w_2121 : (Jvm.Cond.instanceMethod ({ cls := "ScarArmyModel", name := "gainsOf", desc := "(II)I" } : Jvm.MethodName)) ∈ pT := List.mem_filter.mpr ⟨(tb_8 (List.mem_of_getElem? (i := 77) rfl)), by decide +kernel⟩
set_option maxRecDepth 100000 in
theorem w_2122 : (Jvm.Cond.code ({ cls := "ScarArmyModel", name := "gainsOf", desc := "(II)I" } : Jvm.MethodName) prog_14_method_112_code (4 : Nat) (Option.some Jvm.ClassFile.FieldType.int)) ∈ pT := List.mem_filter.mpr ⟨(tb_8 (List.mem_of_getElem? (i := 78) rfl)), by decide +kernel⟩
set_option maxRecDepth 100000 in
theorem w_2126 : (Jvm.Cond.code ({ cls := "ScarArmyModel", name := "buyer", desc := "(I)I" } : Jvm.MethodName) prog_14_method_115_code (2 : Nat) (Option.some Jvm.ClassFile.FieldType.int)) ∈ pT := List.mem_filter.mpr ⟨(tb_8 (List.mem_of_getElem? (i := 82) rfl)), by decide +kernel⟩
set_option maxRecDepth 100000 in
theorem w_2127 : (Jvm.Cond.methodLink "ScarArmyModel" (432 : Nat) ({ cls := "ScarArmyModel", name := "buyerOf", desc := "(I)I" } : Jvm.MethodName)) ∈ pT := List.mem_filter.mpr ⟨(tb_8 (List.mem_of_getElem? (i := 83) rfl)), by decide +kernel⟩
set_option maxRecDepth 100000 in
theorem w_2129 : (Jvm.Cond.instanceMethod ({ cls := "ScarArmyModel", name := "buyerOf", desc := "(I)I" } : Jvm.MethodName)) ∈ pT := List.mem_filter.mpr ⟨(tb_8 (List.mem_of_getElem? (i := 85) rfl)), by decide +kernel⟩
set_option maxRecDepth 100000 in
theorem w_2130 : (Jvm.Cond.code ({ cls := "ScarArmyModel", name := "buyerOf", desc := "(I)I" } : Jvm.MethodName) prog_14_method_114_code (4 : Nat) (Option.some Jvm.ClassFile.FieldType.int)) ∈ pT := List.mem_filter.mpr ⟨(tb_8 (List.mem_of_getElem? (i := 86) rfl)), by decide +kernel⟩
set_option maxRecDepth 100000 in
theorem w_2134 : (Jvm.Cond.code ({ cls := "ScarArmyModel", name := "bargain", desc := "(Z)I" } : Jvm.MethodName) prog_14_method_116_code (7 : Nat) (Option.some Jvm.ClassFile.FieldType.int)) ∈ pT := List.mem_filter.mpr ⟨(tb_8 (List.mem_of_getElem? (i := 90) rfl)), by decide +kernel⟩
set_option maxRecDepth 100000 in
theorem w_2138 : (Jvm.Cond.code ({ cls := "ScarArmyModel", name := "enemies", desc := "(I)I" } : Jvm.MethodName) prog_14_method_119_code (4 : Nat) (Option.some Jvm.ClassFile.FieldType.int)) ∈ pT := List.mem_filter.mpr ⟨(tb_8 (List.mem_of_getElem? (i := 94) rfl)), by decide +kernel⟩
set_option maxRecDepth 100000 in
theorem w_2139 : (Jvm.Cond.methodLink "ScarArmyModel" (438 : Nat) ({ cls := "ScarArmyModel", name := "matched", desc := "(I)I" } : Jvm.MethodName)) ∈ pT := List.mem_filter.mpr ⟨(tb_8 (List.mem_of_getElem? (i := 95) rfl)), by decide +kernel⟩
set_option maxRecDepth 100000 in
theorem w_2141 : (Jvm.Cond.instanceMethod ({ cls := "ScarArmyModel", name := "matched", desc := "(I)I" } : Jvm.MethodName)) ∈ pT := List.mem_filter.mpr ⟨(tb_8 (List.mem_of_getElem? (i := 97) rfl)), by decide +kernel⟩
set_option maxRecDepth 100000 in
theorem w_2142 : (Jvm.Cond.code ({ cls := "ScarArmyModel", name := "matched", desc := "(I)I" } : Jvm.MethodName) prog_14_method_118_code (6 : Nat) (Option.some Jvm.ClassFile.FieldType.int)) ∈ pT := List.mem_filter.mpr ⟨(tb_8 (List.mem_of_getElem? (i := 98) rfl)), by decide +kernel⟩
set_option maxRecDepth 100000 in
theorem w_2143 : (Jvm.Cond.methodLink "ScarArmyModel" (435 : Nat) ({ cls := "ScarArmyModel", name := "meant", desc := "(I)I" } : Jvm.MethodName)) ∈ pT := List.mem_filter.mpr ⟨(tb_8 (List.mem_of_getElem? (i := 99) rfl)), by decide +kernel⟩
set_option maxRecDepth 100000 in
theorem w_2145 : (Jvm.Cond.instanceMethod ({ cls := "ScarArmyModel", name := "meant", desc := "(I)I" } : Jvm.MethodName)) ∈ pT := List.mem_filter.mpr ⟨(tb_8 (List.mem_of_getElem? (i := 101) rfl)), by decide +kernel⟩
set_option maxRecDepth 100000 in
theorem w_2146 : (Jvm.Cond.code ({ cls := "ScarArmyModel", name := "meant", desc := "(I)I" } : Jvm.MethodName) prog_14_method_117_code (4 : Nat) (Option.some Jvm.ClassFile.FieldType.int)) ∈ pT := List.mem_filter.mpr ⟨(tb_8 (List.mem_of_getElem? (i := 102) rfl)), by decide +kernel⟩
set_option maxRecDepth 100000 in
theorem w_2150 : (Jvm.Cond.code ({ cls := "ScarArmyModel", name := "sergeant", desc := "()I" } : Jvm.MethodName) prog_14_method_120_code (5 : Nat) (Option.some Jvm.ClassFile.FieldType.int)) ∈ pT := List.mem_filter.mpr ⟨(tb_8 (List.mem_of_getElem? (i := 106) rfl)), by decide +kernel⟩
set_option maxRecDepth 100000 in
theorem w_2154 : (Jvm.Cond.code ({ cls := "ScarArmyModel", name := "turn", desc := "(IIII)I" } : Jvm.MethodName) prog_14_method_123_code (9 : Nat) (Option.some Jvm.ClassFile.FieldType.int)) ∈ pT := List.mem_filter.mpr ⟨(tb_8 (List.mem_of_getElem? (i := 110) rfl)), by decide +kernel⟩
set_option maxRecDepth 100000 in
theorem w_2155 : (Jvm.Cond.methodLink "ScarArmyModel" (444 : Nat) ({ cls := "ScarArmyModel", name := "allMen", desc := "(I)I" } : Jvm.MethodName)) ∈ pT := List.mem_filter.mpr ⟨(tb_8 (List.mem_of_getElem? (i := 111) rfl)), by decide +kernel⟩
set_option maxRecDepth 100000 in
theorem w_2157 : (Jvm.Cond.instanceMethod ({ cls := "ScarArmyModel", name := "allMen", desc := "(I)I" } : Jvm.MethodName)) ∈ pT := List.mem_filter.mpr ⟨(tb_8 (List.mem_of_getElem? (i := 113) rfl)), by decide +kernel⟩
set_option maxRecDepth 100000 in
theorem w_2158 : (Jvm.Cond.code ({ cls := "ScarArmyModel", name := "allMen", desc := "(I)I" } : Jvm.MethodName) prog_14_method_122_code (2 : Nat) (Option.some Jvm.ClassFile.FieldType.int)) ∈ pT := List.mem_filter.mpr ⟨(tb_8 (List.mem_of_getElem? (i := 114) rfl)), by decide +kernel⟩
set_option maxRecDepth 100000 in
theorem w_2159 : (Jvm.Cond.methodLink "ScarArmyModel" (447 : Nat) ({ cls := "ScarArmyModel", name := "kth", desc := "(II)I" } : Jvm.MethodName)) ∈ pT := List.mem_filter.mpr ⟨(tb_8 (List.mem_of_getElem? (i := 115) rfl)), by decide +kernel⟩
set_option maxRecDepth 100000 in
theorem w_2160 : (Jvm.Cond.static ({ cls := "ScarArmyModel", name := "kth", desc := "(II)I" } : Jvm.MethodName)) ∈ pT := List.mem_filter.mpr ⟨(tb_8 (List.mem_of_getElem? (i := 116) rfl)), by decide +kernel⟩
set_option maxRecDepth 100000 in
theorem w_2161 : (Jvm.Cond.code ({ cls := "ScarArmyModel", name := "kth", desc := "(II)I" } : Jvm.MethodName) prog_14_method_121_code (4 : Nat) (Option.some Jvm.ClassFile.FieldType.int)) ∈ pT := List.mem_filter.mpr ⟨(tb_8 (List.mem_of_getElem? (i := 117) rfl)), by decide +kernel⟩
set_option maxRecDepth 100000 in
theorem w_2162 : (Jvm.Cond.methodLink "ScarArmyModel" (441 : Nat) ({ cls := "java/lang/Integer", name := "numberOfTrailingZeros", desc := "(I)I" } : Jvm.MethodName)) ∈ pT := List.mem_filter.mpr ⟨(tb_8 (List.mem_of_getElem? (i := 118) rfl)), by decide +kernel⟩
set_option maxRecDepth 100000 in
theorem w_2163 : (Jvm.Cond.static ({ cls := "java/lang/Integer", name := "numberOfTrailingZeros", desc := "(I)I" } : Jvm.MethodName)) ∈ pT := List.mem_filter.mpr ⟨(tb_8 (List.mem_of_getElem? (i := 119) rfl)), by decide +kernel⟩
set_option maxRecDepth 100000 in
theorem w_2164 : (Jvm.Cond.code ({ cls := "java/lang/Integer", name := "numberOfTrailingZeros", desc := "(I)I" } : Jvm.MethodName) prog_23_method_48_code (2 : Nat) (Option.some Jvm.ClassFile.FieldType.int)) ∈ pT := List.mem_filter.mpr ⟨(tb_8 (List.mem_of_getElem? (i := 120) rfl)), by decide +kernel⟩
set_option maxRecDepth 100000 in
theorem w_2165 : (Jvm.Cond.constant "java/lang/Integer" (264 : Nat) (65536 : Int32)) ∈ pT := List.mem_filter.mpr ⟨(tb_8 (List.mem_of_getElem? (i := 121) rfl)), by decide +kernel⟩
set_option maxRecDepth 100000 in
theorem w_2169 : (Jvm.Cond.code ({ cls := "ScarArmyModel", name := "polished", desc := "(I)I" } : Jvm.MethodName) prog_14_method_124_code (4 : Nat) (Option.some Jvm.ClassFile.FieldType.int)) ∈ pT := List.mem_filter.mpr ⟨(tb_8 (List.mem_of_getElem? (i := 125) rfl)), by decide +kernel⟩
set_option maxRecDepth 100000 in
theorem w_2173 : (Jvm.Cond.code ({ cls := "ScarArmyModel", name := "hands", desc := "(II)I" } : Jvm.MethodName) prog_14_method_125_code (5 : Nat) (Option.some Jvm.ClassFile.FieldType.int)) ∈ pT := List.mem_filter.mpr ⟨(tb_8 (List.mem_of_getElem? (i := 129) rfl)), by decide +kernel⟩
set_option maxRecDepth 100000 in
theorem w_2177 : (Jvm.Cond.code ({ cls := "ScarArmyModel", name := "mourned", desc := "()I" } : Jvm.MethodName) prog_14_method_126_code (3 : Nat) (Option.some Jvm.ClassFile.FieldType.int)) ∈ pT := List.mem_filter.mpr ⟨(tb_8 (List.mem_of_getElem? (i := 133) rfl)), by decide +kernel⟩
set_option maxRecDepth 100000 in
theorem w_2181 : (Jvm.Cond.code ({ cls := "ScarArmyModel", name := "after", desc := "(II)I" } : Jvm.MethodName) prog_14_method_129_code (4 : Nat) (Option.some Jvm.ClassFile.FieldType.int)) ∈ pT := List.mem_filter.mpr ⟨(tb_8 (List.mem_of_getElem? (i := 137) rfl)), by decide +kernel⟩
set_option maxRecDepth 100000 in
theorem w_2182 : (Jvm.Cond.methodLink "ScarArmyModel" (450 : Nat) ({ cls := "ScarArmyModel", name := "keepsAll", desc := "()V" } : Jvm.MethodName)) ∈ pT := List.mem_filter.mpr ⟨(tb_8 (List.mem_of_getElem? (i := 138) rfl)), by decide +kernel⟩
set_option maxRecDepth 100000 in
theorem w_2184 : (Jvm.Cond.instanceMethod ({ cls := "ScarArmyModel", name := "keepsAll", desc := "()V" } : Jvm.MethodName)) ∈ pT := List.mem_filter.mpr ⟨(tb_8 (List.mem_of_getElem? (i := 140) rfl)), by decide +kernel⟩
set_option maxRecDepth 100000 in
theorem w_2185 : (Jvm.Cond.code ({ cls := "ScarArmyModel", name := "keepsAll", desc := "()V" } : Jvm.MethodName) prog_14_method_127_code (2 : Nat) (Option.none : Option Jvm.ClassFile.FieldType)) ∈ pT := List.mem_filter.mpr ⟨(tb_8 (List.mem_of_getElem? (i := 141) rfl)), by decide +kernel⟩
set_option maxRecDepth 100000 in
theorem w_2186 : (Jvm.Cond.methodLink "ScarArmyModel" (453 : Nat) ({ cls := "ScarArmyModel", name := "bringsBack", desc := "()V" } : Jvm.MethodName)) ∈ pT := List.mem_filter.mpr ⟨(tb_8 (List.mem_of_getElem? (i := 142) rfl)), by decide +kernel⟩
set_option maxRecDepth 100000 in
theorem w_2188 : (Jvm.Cond.instanceMethod ({ cls := "ScarArmyModel", name := "bringsBack", desc := "()V" } : Jvm.MethodName)) ∈ pT := List.mem_filter.mpr ⟨(tb_8 (List.mem_of_getElem? (i := 144) rfl)), by decide +kernel⟩
set_option maxRecDepth 100000 in
theorem w_2189 : (Jvm.Cond.code ({ cls := "ScarArmyModel", name := "bringsBack", desc := "()V" } : Jvm.MethodName) prog_14_method_128_code (2 : Nat) (Option.none : Option Jvm.ClassFile.FieldType)) ∈ pT := List.mem_filter.mpr ⟨(tb_8 (List.mem_of_getElem? (i := 145) rfl)), by decide +kernel⟩
set_option maxRecDepth 100000 in
theorem w_2193 : (Jvm.Cond.code ({ cls := "ScarArmyModel", name := "shared", desc := "(II)I" } : Jvm.MethodName) prog_14_method_130_code (5 : Nat) (Option.some Jvm.ClassFile.FieldType.int)) ∈ pT := List.mem_filter.mpr ⟨(tb_8 (List.mem_of_getElem? (i := 149) rfl)), by decide +kernel⟩
set_option maxRecDepth 100000 in
theorem w_2197 : (Jvm.Cond.code ({ cls := "ScarArmyModel", name := "route", desc := "(I)Z" } : Jvm.MethodName) prog_14_method_132_code (2 : Nat) (Option.some Jvm.ClassFile.FieldType.boolean)) ∈ pT := List.mem_filter.mpr ⟨(tb_8 (List.mem_of_getElem? (i := 153) rfl)), by decide +kernel⟩
set_option maxRecDepth 100000 in
theorem w_2198 : (Jvm.Cond.methodLink "ScarArmyModel" (456 : Nat) ({ cls := "ScarArmyModel", name := "isRoute", desc := "(I)Z" } : Jvm.MethodName)) ∈ pT := List.mem_filter.mpr ⟨(tb_8 (List.mem_of_getElem? (i := 154) rfl)), by decide +kernel⟩
set_option maxRecDepth 100000 in
theorem w_2200 : (Jvm.Cond.instanceMethod ({ cls := "ScarArmyModel", name := "isRoute", desc := "(I)Z" } : Jvm.MethodName)) ∈ pT := List.mem_filter.mpr ⟨(tb_8 (List.mem_of_getElem? (i := 156) rfl)), by decide +kernel⟩
set_option maxRecDepth 100000 in
theorem w_2201 : (Jvm.Cond.code ({ cls := "ScarArmyModel", name := "isRoute", desc := "(I)Z" } : Jvm.MethodName) prog_14_method_131_code (5 : Nat) (Option.some Jvm.ClassFile.FieldType.boolean)) ∈ pT := List.mem_filter.mpr ⟨(tb_8 (List.mem_of_getElem? (i := 157) rfl)), by decide +kernel⟩
set_option maxRecDepth 100000 in
theorem w_2205 : (Jvm.Cond.code ({ cls := "ScarArmyModel", name := "campaign", desc := "(Z)I" } : Jvm.MethodName) prog_14_method_133_code (5 : Nat) (Option.some Jvm.ClassFile.FieldType.int)) ∈ pT := List.mem_filter.mpr ⟨(tb_8 (List.mem_of_getElem? (i := 161) rfl)), by decide +kernel⟩
set_option maxRecDepth 100000 in
theorem w_2209 : (Jvm.Cond.code ({ cls := "ScarArmyModel", name := "voids", desc := "()I" } : Jvm.MethodName) prog_14_method_134_code (3 : Nat) (Option.some Jvm.ClassFile.FieldType.int)) ∈ pT := List.mem_filter.mpr ⟨(tb_8 (List.mem_of_getElem? (i := 165) rfl)), by decide +kernel⟩
set_option maxRecDepth 100000 in
theorem w_2213 : (Jvm.Cond.code ({ cls := "ScarArmyModel", name := "lies", desc := "()I" } : Jvm.MethodName) prog_14_method_135_code (3 : Nat) (Option.some Jvm.ClassFile.FieldType.int)) ∈ pT := List.mem_filter.mpr ⟨(tb_8 (List.mem_of_getElem? (i := 169) rfl)), by decide +kernel⟩
set_option maxRecDepth 100000 in
theorem w_2217 : (Jvm.Cond.code ({ cls := "ScarArmyModel", name := "crosswise", desc := "()I" } : Jvm.MethodName) prog_14_method_136_code (3 : Nat) (Option.some Jvm.ClassFile.FieldType.int)) ∈ pT := List.mem_filter.mpr ⟨(tb_8 (List.mem_of_getElem? (i := 173) rfl)), by decide +kernel⟩
set_option maxRecDepth 100000 in
theorem w_2221 : (Jvm.Cond.code ({ cls := "ScarArmyModel", name := "market", desc := "(I)I" } : Jvm.MethodName) prog_14_method_139_code (2 : Nat) (Option.some Jvm.ClassFile.FieldType.int)) ∈ pT := List.mem_filter.mpr ⟨(tb_8 (List.mem_of_getElem? (i := 177) rfl)), by decide +kernel⟩
set_option maxRecDepth 100000 in
theorem w_2222 : (Jvm.Cond.methodLink "ScarArmyModel" (468 : Nat) ({ cls := "ScarArmyModel", name := "sales", desc := "(I)I" } : Jvm.MethodName)) ∈ pT := List.mem_filter.mpr ⟨(tb_8 (List.mem_of_getElem? (i := 178) rfl)), by decide +kernel⟩
set_option maxRecDepth 100000 in
theorem w_2224 : (Jvm.Cond.instanceMethod ({ cls := "ScarArmyModel", name := "sales", desc := "(I)I" } : Jvm.MethodName)) ∈ pT := List.mem_filter.mpr ⟨(tb_8 (List.mem_of_getElem? (i := 180) rfl)), by decide +kernel⟩
set_option maxRecDepth 100000 in
theorem w_2225 : (Jvm.Cond.code ({ cls := "ScarArmyModel", name := "sales", desc := "(I)I" } : Jvm.MethodName) prog_14_method_138_code (4 : Nat) (Option.some Jvm.ClassFile.FieldType.int)) ∈ pT := List.mem_filter.mpr ⟨(tb_8 (List.mem_of_getElem? (i := 181) rfl)), by decide +kernel⟩
set_option maxRecDepth 100000 in
theorem w_2226 : (Jvm.Cond.methodLink "ScarArmyModel" (465 : Nat) ({ cls := "ScarArmyModel", name := "sells", desc := "()Z" } : Jvm.MethodName)) ∈ pT := List.mem_filter.mpr ⟨(tb_8 (List.mem_of_getElem? (i := 182) rfl)), by decide +kernel⟩
set_option maxRecDepth 100000 in
theorem w_2228 : (Jvm.Cond.instanceMethod ({ cls := "ScarArmyModel", name := "sells", desc := "()Z" } : Jvm.MethodName)) ∈ pT := List.mem_filter.mpr ⟨(tb_8 (List.mem_of_getElem? (i := 184) rfl)), by decide +kernel⟩
set_option maxRecDepth 100000 in
theorem w_2229 : (Jvm.Cond.code ({ cls := "ScarArmyModel", name := "sells", desc := "()Z" } : Jvm.MethodName) prog_14_method_137_code (4 : Nat) (Option.some Jvm.ClassFile.FieldType.boolean)) ∈ pT := List.mem_filter.mpr ⟨(tb_8 (List.mem_of_getElem? (i := 185) rfl)), by decide +kernel⟩
set_option maxRecDepth 100000 in
theorem w_2230 : (Jvm.Cond.methodLink "ScarArmyModel" (459 : Nat) ({ cls := "ScarArmyModel", name := "draw", desc := "(I)I" } : Jvm.MethodName)) ∈ pT := List.mem_filter.mpr ⟨(tb_8 (List.mem_of_getElem? (i := 186) rfl)), by decide +kernel⟩
set_option maxRecDepth 100000 in
theorem w_2232 : (Jvm.Cond.instanceMethod ({ cls := "ScarArmyModel", name := "draw", desc := "(I)I" } : Jvm.MethodName)) ∈ pT := List.mem_filter.mpr ⟨(tb_8 (List.mem_of_getElem? (i := 188) rfl)), by decide +kernel⟩
set_option maxRecDepth 100000 in
theorem w_2233 : (Jvm.Cond.code ({ cls := "ScarArmyModel", name := "draw", desc := "(I)I" } : Jvm.MethodName) prog_14_method_22_code (2 : Nat) (Option.some Jvm.ClassFile.FieldType.int)) ∈ pT := List.mem_filter.mpr ⟨(tb_8 (List.mem_of_getElem? (i := 189) rfl)), by decide +kernel⟩
set_option maxRecDepth 100000 in
theorem w_2234 : (Jvm.Cond.constant "ScarArmyModel" (85 : Nat) (1103515245 : Int32)) ∈ pT := List.mem_filter.mpr ⟨(tb_8 (List.mem_of_getElem? (i := 190) rfl)), by decide +kernel⟩
set_option maxRecDepth 100000 in
theorem w_2238 : (Jvm.Cond.code ({ cls := "ScarArmyModel", name := "trial", desc := "(IZ)I" } : Jvm.MethodName) prog_14_method_140_code (4 : Nat) (Option.some Jvm.ClassFile.FieldType.int)) ∈ pT := List.mem_filter.mpr ⟨(tb_8 (List.mem_of_getElem? (i := 194) rfl)), by decide +kernel⟩
set_option maxRecDepth 100000 in
theorem w_2242 : (Jvm.Cond.code ({ cls := "ScarArmyModel", name := "span", desc := "(IZ)I" } : Jvm.MethodName) prog_14_method_141_code (6 : Nat) (Option.some Jvm.ClassFile.FieldType.int)) ∈ pT := List.mem_filter.mpr ⟨(tb_8 (List.mem_of_getElem? (i := 198) rfl)), by decide +kernel⟩
set_option maxRecDepth 100000 in
theorem w_2246 : (Jvm.Cond.code ({ cls := "ScarArmyModel", name := "led", desc := "(IZ)I" } : Jvm.MethodName) prog_14_method_142_code (3 : Nat) (Option.some Jvm.ClassFile.FieldType.int)) ∈ pT := List.mem_filter.mpr ⟨(tb_8 (List.mem_of_getElem? (i := 202) rfl)), by decide +kernel⟩
set_option maxRecDepth 100000 in
theorem w_2250 : (Jvm.Cond.code ({ cls := "ScarArmyModel", name := "log", desc := "(II)I" } : Jvm.MethodName) prog_14_method_143_code (3 : Nat) (Option.some Jvm.ClassFile.FieldType.int)) ∈ pT := List.mem_filter.mpr ⟨(tb_8 (List.mem_of_getElem? (i := 206) rfl)), by decide +kernel⟩
set_option maxRecDepth 100000 in
theorem w_2254 : (Jvm.Cond.code ({ cls := "ScarArmyModel", name := "seed", desc := "(I)I" } : Jvm.MethodName) prog_14_method_144_code (3 : Nat) (Option.some Jvm.ClassFile.FieldType.int)) ∈ pT := List.mem_filter.mpr ⟨(tb_8 (List.mem_of_getElem? (i := 210) rfl)), by decide +kernel⟩
set_option maxRecDepth 100000 in
theorem w_2258 : (Jvm.Cond.code ({ cls := "ScarArmyModel", name := "count", desc := "(I)I" } : Jvm.MethodName) prog_14_method_148_code (2 : Nat) (Option.some Jvm.ClassFile.FieldType.int)) ∈ pT := List.mem_filter.mpr ⟨(tb_8 (List.mem_of_getElem? (i := 214) rfl)), by decide +kernel⟩
set_option maxRecDepth 100000 in
theorem w_2259 : (Jvm.Cond.methodLink "ScarArmyModel" (471 : Nat) ({ cls := "ScarArmyModel", name := "alive", desc := "()I" } : Jvm.MethodName)) ∈ pT := List.mem_filter.mpr ⟨(tb_8 (List.mem_of_getElem? (i := 215) rfl)), by decide +kernel⟩
set_option maxRecDepth 100000 in
theorem w_2261 : (Jvm.Cond.instanceMethod ({ cls := "ScarArmyModel", name := "alive", desc := "()I" } : Jvm.MethodName)) ∈ pT := List.mem_filter.mpr ⟨(tb_8 (List.mem_of_getElem? (i := 217) rfl)), by decide +kernel⟩
set_option maxRecDepth 100000 in
theorem w_2262 : (Jvm.Cond.code ({ cls := "ScarArmyModel", name := "alive", desc := "()I" } : Jvm.MethodName) prog_14_method_145_code (3 : Nat) (Option.some Jvm.ClassFile.FieldType.int)) ∈ pT := List.mem_filter.mpr ⟨(tb_8 (List.mem_of_getElem? (i := 218) rfl)), by decide +kernel⟩
set_option maxRecDepth 100000 in
theorem w_2263 : (Jvm.Cond.methodLink "ScarArmyModel" (474 : Nat) ({ cls := "ScarArmyModel", name := "allCoins", desc := "()I" } : Jvm.MethodName)) ∈ pT := List.mem_filter.mpr ⟨(tb_8 (List.mem_of_getElem? (i := 219) rfl)), by decide +kernel⟩
set_option maxRecDepth 100000 in
theorem w_2265 : (Jvm.Cond.instanceMethod ({ cls := "ScarArmyModel", name := "allCoins", desc := "()I" } : Jvm.MethodName)) ∈ pT := List.mem_filter.mpr ⟨(tb_8 (List.mem_of_getElem? (i := 221) rfl)), by decide +kernel⟩
set_option maxRecDepth 100000 in
theorem w_2266 : (Jvm.Cond.code ({ cls := "ScarArmyModel", name := "allCoins", desc := "()I" } : Jvm.MethodName) prog_14_method_146_code (3 : Nat) (Option.some Jvm.ClassFile.FieldType.int)) ∈ pT := List.mem_filter.mpr ⟨(tb_8 (List.mem_of_getElem? (i := 222) rfl)), by decide +kernel⟩
set_option maxRecDepth 100000 in
theorem w_2267 : (Jvm.Cond.methodLink "ScarArmyModel" (477 : Nat) ({ cls := "ScarArmyModel", name := "allWorth", desc := "()I" } : Jvm.MethodName)) ∈ pT := List.mem_filter.mpr ⟨(tb_8 (List.mem_of_getElem? (i := 223) rfl)), by decide +kernel⟩
set_option maxRecDepth 100000 in
theorem w_2269 : (Jvm.Cond.instanceMethod ({ cls := "ScarArmyModel", name := "allWorth", desc := "()I" } : Jvm.MethodName)) ∈ pT := List.mem_filter.mpr ⟨(tb_8 (List.mem_of_getElem? (i := 225) rfl)), by decide +kernel⟩
set_option maxRecDepth 100000 in
theorem w_2270 : (Jvm.Cond.code ({ cls := "ScarArmyModel", name := "allWorth", desc := "()I" } : Jvm.MethodName) prog_14_method_147_code (3 : Nat) (Option.some Jvm.ClassFile.FieldType.int)) ∈ pT := List.mem_filter.mpr ⟨(tb_8 (List.mem_of_getElem? (i := 226) rfl)), by decide +kernel⟩
set_option maxRecDepth 100000 in
theorem w_2293 : (Jvm.Cond.fieldLink "java/lang/String" (9 : Nat) "java/lang/String" "value" "[B") ∈ pT := List.mem_filter.mpr ⟨(tb_9 (List.mem_of_getElem? (i := 9) rfl)), by decide +kernel⟩
set_option maxRecDepth 100000 in
theorem w_2294 : (Jvm.Cond.fieldLink "java/lang/String" (15 : Nat) "java/lang/String" "coder" "B") ∈ pT := List.mem_filter.mpr ⟨(tb_9 (List.mem_of_getElem? (i := 10) rfl)), by decide +kernel⟩
set_option maxRecDepth 100000 in
theorem wl_164 : (Jvm.Cond.methodLinkNest "ScarArmy" (9 : Nat) ({ cls := "ScarArmy$Tape", name := "<init>", desc := "()V" } : Jvm.MethodName) "ScarArmy") ∈ lw_tbl := (tb_0 (List.mem_of_getElem? (i := 40) rfl))
set_option maxRecDepth 100000 in
theorem wl_227 : (Jvm.Cond.methodLinkNest "ScarArmy" (34 : Nat) ({ cls := "ScarArmy$Army", name := "<init>", desc := "()V" } : Jvm.MethodName) "ScarArmy") ∈ lw_tbl := (tb_0 (List.mem_of_getElem? (i := 103) rfl))
set_option maxRecDepth 100000 in
theorem wl_233 : (Jvm.Cond.methodLinkNest "ScarArmy$Army" (11 : Nat) ({ cls := "ScarArmy$Battles", name := "<init>", desc := "()V" } : Jvm.MethodName) "ScarArmy") ∈ lw_tbl := (tb_0 (List.mem_of_getElem? (i := 109) rfl))
set_option maxRecDepth 100000 in
theorem wl_259 : (Jvm.Cond.methodLinkNest "ScarArmy$Army" (20 : Nat) ({ cls := "ScarArmy$Men", name := "<init>", desc := "()V" } : Jvm.MethodName) "ScarArmy") ∈ lw_tbl := (tb_0 (List.mem_of_getElem? (i := 135) rfl))
set_option maxRecDepth 100000 in
theorem wl_288 : (Jvm.Cond.methodLinkNest "ScarArmy$Army" (27 : Nat) ({ cls := "ScarArmy$Scars", name := "<init>", desc := "()V" } : Jvm.MethodName) "ScarArmy") ∈ lw_tbl := (tb_0 (List.mem_of_getElem? (i := 164) rfl))
set_option maxRecDepth 100000 in
theorem wl_346 : (Jvm.Cond.methodLinkNest "ScarArmy$Army" (34 : Nat) ({ cls := "ScarArmy$Log", name := "<init>", desc := "()V" } : Jvm.MethodName) "ScarArmy") ∈ lw_tbl := (tb_0 (List.mem_of_getElem? (i := 222) rfl))
set_option maxRecDepth 100000 in
theorem wl_411 : (Jvm.Cond.arrayOver (Jvm.ClassFile.FieldType.object "ScarArmy$Army")) ∈ lw_tbl := (tb_1 (List.mem_of_getElem? (i := 47) rfl))
set_option maxRecDepth 100000 in
theorem wl_412 : (Jvm.Cond.methodLinkNest "ScarArmy$Memory" (24 : Nat) ({ cls := "ScarArmy$Army", name := "<init>", desc := "()V" } : Jvm.MethodName) "ScarArmy") ∈ lw_tbl := (tb_1 (List.mem_of_getElem? (i := 48) rfl))
set_option maxRecDepth 100000 in
theorem wl_426 : (Jvm.Cond.methodLinkNest "ScarArmy" (54 : Nat) ({ cls := "ScarArmy$Search", name := "<init>", desc := "()V" } : Jvm.MethodName) "ScarArmy") ∈ lw_tbl := (tb_1 (List.mem_of_getElem? (i := 62) rfl))
set_option maxRecDepth 100000 in
theorem wl_820 : (Jvm.Cond.stringRef "ScarArmy$ArmyText" (38 : Nat) "battle") ∈ lw_tbl := (tb_2 (List.mem_of_getElem? (i := 216) rfl))
set_option maxRecDepth 100000 in
theorem wl_886 : (Jvm.Cond.stringRef "ScarArmy$ArmyText" (106 : Nat) "day") ∈ lw_tbl := (tb_3 (List.mem_of_getElem? (i := 42) rfl))
set_option maxRecDepth 100000 in
theorem wl_892 : (Jvm.Cond.stringRef "ScarArmy$ArmyText" (108 : Nat) "with") ∈ lw_tbl := (tb_3 (List.mem_of_getElem? (i := 48) rfl))
set_option maxRecDepth 100000 in
theorem wl_897 : (Jvm.Cond.stringRef "ScarArmy$ArmyText" (53 : Nat) "man") ∈ lw_tbl := (tb_3 (List.mem_of_getElem? (i := 53) rfl))
set_option maxRecDepth 100000 in
theorem wl_906 : (Jvm.Cond.stringRef "ScarArmy$ArmyText" (63 : Nat) "scar") ∈ lw_tbl := (tb_3 (List.mem_of_getElem? (i := 62) rfl))
set_option maxRecDepth 100000 in
theorem wl_911 : (Jvm.Cond.stringRef "ScarArmy$ArmyText" (123 : Nat) "of") ∈ lw_tbl := (tb_3 (List.mem_of_getElem? (i := 67) rfl))
set_option maxRecDepth 100000 in
theorem wl_912 : (Jvm.Cond.stringRef "ScarArmy$ArmyText" (125 : Nat) "in") ∈ lw_tbl := (tb_3 (List.mem_of_getElem? (i := 68) rfl))
set_option maxRecDepth 100000 in
theorem wl_913 : (Jvm.Cond.stringRef "ScarArmy$ArmyText" (127 : Nat) "depth") ∈ lw_tbl := (tb_3 (List.mem_of_getElem? (i := 69) rfl))
set_option maxRecDepth 100000 in
theorem wl_914 : (Jvm.Cond.stringRef "ScarArmy$ArmyText" (129 : Nat) "on") ∈ lw_tbl := (tb_3 (List.mem_of_getElem? (i := 70) rfl))
set_option maxRecDepth 100000 in
theorem wl_920 : (Jvm.Cond.stringRef "ScarArmy$ArmyText" (134 : Nat) "by") ∈ lw_tbl := (tb_3 (List.mem_of_getElem? (i := 76) rfl))
set_option maxRecDepth 100000 in
theorem wl_921 : (Jvm.Cond.stringRef "ScarArmy$ArmyText" (68 : Nat) "told") ∈ lw_tbl := (tb_3 (List.mem_of_getElem? (i := 77) rfl))
set_option maxRecDepth 100000 in
theorem wl_926 : (Jvm.Cond.stringRef "ScarArmy$ArmyText" (78 : Nat) "today") ∈ lw_tbl := (tb_3 (List.mem_of_getElem? (i := 82) rfl))
set_option maxRecDepth 100000 in
theorem wl_927 : (Jvm.Cond.stringRef "ScarArmy$ArmyText" (89 : Nat) "dead") ∈ lw_tbl := (tb_3 (List.mem_of_getElem? (i := 83) rfl))
set_option maxRecDepth 100000 in
theorem wl_932 : (Jvm.Cond.stringRef "ScarArmy$ArmyText" (32 : Nat) ";") ∈ lw_tbl := (tb_3 (List.mem_of_getElem? (i := 88) rfl))
set_option maxRecDepth 100000 in
theorem wl_935 : (Jvm.Cond.castable "java/lang/IllegalArgumentException" "java/lang/IllegalArgumentException") ∈ lw_tbl := (tb_3 (List.mem_of_getElem? (i := 91) rfl))
set_option maxRecDepth 100000 in
theorem wl_976 : (Jvm.Cond.stringRef "ScarArmy" (84 : Nat) "the text is wrong") ∈ lw_tbl := (tb_3 (List.mem_of_getElem? (i := 132) rfl))
set_option maxRecDepth 100000 in
theorem wl_1004 : (Jvm.Cond.castable "java/lang/UnsupportedOperationException" "java/lang/UnsupportedOperationException") ∈ lw_tbl := (tb_3 (List.mem_of_getElem? (i := 160) rfl))
set_option maxRecDepth 100000 in
theorem wl_1011 : (Jvm.Cond.stringRef "ScarArmy" (94 : Nat) "no more texts") ∈ lw_tbl := (tb_3 (List.mem_of_getElem? (i := 167) rfl))
set_option maxRecDepth 100000 in
theorem wl_1035 : (Jvm.Cond.stringRef "ScarArmy$LawText" (58 : Nat) "worth") ∈ lw_tbl := (tb_3 (List.mem_of_getElem? (i := 191) rfl))
set_option maxRecDepth 100000 in
theorem wl_1037 : (Jvm.Cond.stringRef "ScarArmy$LawText" (63 : Nat) "less") ∈ lw_tbl := (tb_3 (List.mem_of_getElem? (i := 193) rfl))
set_option maxRecDepth 100000 in
theorem wl_1038 : (Jvm.Cond.stringRef "ScarArmy$LawText" (65 : Nat) "void") ∈ lw_tbl := (tb_3 (List.mem_of_getElem? (i := 194) rfl))
set_option maxRecDepth 100000 in
theorem wl_1045 : (Jvm.Cond.stringRef "ScarArmy$LawText" (81 : Nat) "if") ∈ lw_tbl := (tb_3 (List.mem_of_getElem? (i := 201) rfl))
set_option maxRecDepth 100000 in
theorem wl_1055 : (Jvm.Cond.stringRef "ScarArmy$LawText" (94 : Nat) "not") ∈ lw_tbl := (tb_3 (List.mem_of_getElem? (i := 211) rfl))
set_option maxRecDepth 100000 in
theorem wl_1056 : (Jvm.Cond.stringRef "ScarArmy$LawText" (96 : Nat) "(") ∈ lw_tbl := (tb_3 (List.mem_of_getElem? (i := 212) rfl))
set_option maxRecDepth 100000 in
theorem wl_1061 : (Jvm.Cond.stringRef "ScarArmy$LawText" (101 : Nat) ")") ∈ lw_tbl := (tb_3 (List.mem_of_getElem? (i := 217) rfl))
set_option maxRecDepth 100000 in
theorem wl_1066 : (Jvm.Cond.stringRef "ScarArmy$LawText" (119 : Nat) "own") ∈ lw_tbl := (tb_3 (List.mem_of_getElem? (i := 222) rfl))
set_option maxRecDepth 100000 in
theorem wl_1067 : (Jvm.Cond.stringRef "ScarArmy$LawText" (121 : Nat) "fits") ∈ lw_tbl := (tb_3 (List.mem_of_getElem? (i := 223) rfl))
set_option maxRecDepth 100000 in
theorem wl_1068 : (Jvm.Cond.stringRef "ScarArmy$LawText" (123 : Nat) "ear") ∈ lw_tbl := (tb_3 (List.mem_of_getElem? (i := 224) rfl))
set_option maxRecDepth 100000 in
theorem wl_1077 : (Jvm.Cond.stringRef "ScarArmy$LawText" (125 : Nat) "place") ∈ lw_tbl := (tb_3 (List.mem_of_getElem? (i := 233) rfl))
set_option maxRecDepth 100000 in
theorem wl_1078 : (Jvm.Cond.stringRef "ScarArmy$LawText" (127 : Nat) "weapon") ∈ lw_tbl := (tb_3 (List.mem_of_getElem? (i := 234) rfl))
set_option maxRecDepth 100000 in
theorem wl_1079 : (Jvm.Cond.stringRef "ScarArmy$LawText" (129 : Nat) "battle") ∈ lw_tbl := (tb_3 (List.mem_of_getElem? (i := 235) rfl))
set_option maxRecDepth 100000 in
theorem wl_1080 : (Jvm.Cond.stringRef "ScarArmy$LawText" (131 : Nat) "depth") ∈ lw_tbl := (tb_3 (List.mem_of_getElem? (i := 236) rfl))
set_option maxRecDepth 100000 in
theorem wl_1081 : (Jvm.Cond.stringRef "ScarArmy$LawText" (133 : Nat) "told") ∈ lw_tbl := (tb_3 (List.mem_of_getElem? (i := 237) rfl))
set_option maxRecDepth 100000 in
theorem wl_1082 : (Jvm.Cond.stringRef "ScarArmy$LawText" (135 : Nat) "days") ∈ lw_tbl := (tb_3 (List.mem_of_getElem? (i := 238) rfl))
set_option maxRecDepth 100000 in
theorem wl_1083 : (Jvm.Cond.stringRef "ScarArmy$LawText" (137 : Nat) "bearer") ∈ lw_tbl := (tb_3 (List.mem_of_getElem? (i := 239) rfl))
set_option maxRecDepth 100000 in
theorem wl_1084 : (Jvm.Cond.stringRef "ScarArmy$LawText" (117 : Nat) "+") ∈ lw_tbl := (tb_4 (List.mem_of_getElem? (i := 0) rfl))
set_option maxRecDepth 100000 in
theorem wl_1085 : (Jvm.Cond.stringRef "ScarArmy$LawText" (110 : Nat) "<") ∈ lw_tbl := (tb_4 (List.mem_of_getElem? (i := 1) rfl))
set_option maxRecDepth 100000 in
theorem wl_1086 : (Jvm.Cond.stringRef "ScarArmy$LawText" (112 : Nat) ">") ∈ lw_tbl := (tb_4 (List.mem_of_getElem? (i := 2) rfl))
set_option maxRecDepth 100000 in
theorem wl_1087 : (Jvm.Cond.stringRef "ScarArmy$LawText" (90 : Nat) "and") ∈ lw_tbl := (tb_4 (List.mem_of_getElem? (i := 3) rfl))
set_option maxRecDepth 100000 in
theorem wl_1088 : (Jvm.Cond.stringRef "ScarArmy$LawText" (92 : Nat) "or") ∈ lw_tbl := (tb_4 (List.mem_of_getElem? (i := 4) rfl))
set_option maxRecDepth 100000 in
theorem wl_1089 : (Jvm.Cond.stringRef "ScarArmy$LawText" (43 : Nat) ";") ∈ lw_tbl := (tb_4 (List.mem_of_getElem? (i := 5) rfl))
set_option maxRecDepth 100000 in
theorem wl_1137 : (Jvm.Cond.castable "java/lang/IndexOutOfBoundsException" "java/lang/IndexOutOfBoundsException") ∈ lw_tbl := (tb_4 (List.mem_of_getElem? (i := 53) rfl))
set_option maxRecDepth 100000 in
theorem wl_1144 : (Jvm.Cond.stringRef "ScarArmy" (443 : Nat) "no such battle") ∈ lw_tbl := (tb_4 (List.mem_of_getElem? (i := 60) rfl))
set_option maxRecDepth 100000 in
theorem wl_1170 : (Jvm.Cond.castable "java/util/NoSuchElementException" "java/util/NoSuchElementException") ∈ lw_tbl := (tb_4 (List.mem_of_getElem? (i := 86) rfl))
set_option maxRecDepth 100000 in
theorem wl_1177 : (Jvm.Cond.stringRef "ScarArmy" (156 : Nat) "nothing of a battle") ∈ lw_tbl := (tb_4 (List.mem_of_getElem? (i := 93) rfl))
set_option maxRecDepth 100000 in
theorem wl_1195 : (Jvm.Cond.stringRef "ScarArmy" (445 : Nat) "no such man") ∈ lw_tbl := (tb_4 (List.mem_of_getElem? (i := 111) rfl))
set_option maxRecDepth 100000 in
theorem wl_1215 : (Jvm.Cond.stringRef "ScarArmy" (193 : Nat) "nothing of a man") ∈ lw_tbl := (tb_4 (List.mem_of_getElem? (i := 131) rfl))
set_option maxRecDepth 100000 in
theorem wl_1227 : (Jvm.Cond.stringRef "ScarArmy" (447 : Nat) "no such scar") ∈ lw_tbl := (tb_4 (List.mem_of_getElem? (i := 143) rfl))
set_option maxRecDepth 100000 in
theorem wl_1234 : (Jvm.Cond.stringRef "ScarArmy" (231 : Nat) "nothing of a scar") ∈ lw_tbl := (tb_4 (List.mem_of_getElem? (i := 150) rfl))
set_option maxRecDepth 100000 in
theorem wl_1254 : (Jvm.Cond.stringRef "ScarArmy" (236 : Nat) "no such pay, or both are one") ∈ lw_tbl := (tb_4 (List.mem_of_getElem? (i := 170) rfl))
set_option maxRecDepth 100000 in
theorem wl_1257 : (Jvm.Cond.castable "java/lang/IllegalStateException" "java/lang/IllegalStateException") ∈ lw_tbl := (tb_4 (List.mem_of_getElem? (i := 173) rfl))
set_option maxRecDepth 100000 in
theorem wl_1264 : (Jvm.Cond.stringRef "ScarArmy" (240 : Nat) "one is dead, or has not so much") ∈ lw_tbl := (tb_4 (List.mem_of_getElem? (i := 180) rfl))
set_option maxRecDepth 100000 in
theorem wl_1305 : (Jvm.Cond.stringRef "ScarArmy" (449 : Nat) "no such trade") ∈ lw_tbl := (tb_4 (List.mem_of_getElem? (i := 221) rfl))
set_option maxRecDepth 100000 in
theorem wl_1306 : (Jvm.Cond.stringRef "ScarArmy" (253 : Nat) "by that trade it was") ∈ lw_tbl := (tb_4 (List.mem_of_getElem? (i := 222) rfl))
set_option maxRecDepth 100000 in
theorem wl_1318 : (Jvm.Cond.stringRef "ScarArmy" (259 : Nat) "dead already") ∈ lw_tbl := (tb_4 (List.mem_of_getElem? (i := 234) rfl))
set_option maxRecDepth 100000 in
theorem wl_1327 : (Jvm.Cond.stringRef "ScarArmy" (264 : Nat) "both are one") ∈ lw_tbl := (tb_5 (List.mem_of_getElem? (i := 3) rfl))
set_option maxRecDepth 100000 in
theorem wl_1328 : (Jvm.Cond.stringRef "ScarArmy" (266 : Nat) "the first one lives, or the other one is dead") ∈ lw_tbl := (tb_5 (List.mem_of_getElem? (i := 4) rfl))
set_option maxRecDepth 100000 in
theorem wl_1340 : (Jvm.Cond.stringRef "ScarArmy" (273 : Nat) "no such place or weapon") ∈ lw_tbl := (tb_5 (List.mem_of_getElem? (i := 16) rfl))
set_option maxRecDepth 100000 in
theorem wl_1341 : (Jvm.Cond.stringRef "ScarArmy" (276 : Nat) "no such depth") ∈ lw_tbl := (tb_5 (List.mem_of_getElem? (i := 17) rfl))
set_option maxRecDepth 100000 in
theorem wl_1342 : (Jvm.Cond.stringRef "ScarArmy" (278 : Nat) "dead") ∈ lw_tbl := (tb_5 (List.mem_of_getElem? (i := 18) rfl))
set_option maxRecDepth 100000 in
theorem wl_1343 : (Jvm.Cond.stringRef "ScarArmy" (283 : Nat) "no more scars") ∈ lw_tbl := (tb_5 (List.mem_of_getElem? (i := 19) rfl))
set_option maxRecDepth 100000 in
theorem wl_1352 : (Jvm.Cond.stringRef "ScarArmy" (289 : Nat) "no such days") ∈ lw_tbl := (tb_5 (List.mem_of_getElem? (i := 28) rfl))
set_option maxRecDepth 100000 in
theorem wl_1374 : (Jvm.Cond.stringRef "ScarArmy" (451 : Nat) "no such number of sales") ∈ lw_tbl := (tb_5 (List.mem_of_getElem? (i := 50) rfl))
set_option maxRecDepth 100000 in
theorem wl_1418 : (Jvm.Cond.stringRef "ScarArmy" (326 : Nat) "no such looks") ∈ lw_tbl := (tb_5 (List.mem_of_getElem? (i := 94) rfl))
set_option maxRecDepth 100000 in
theorem wl_1467 : (Jvm.Cond.stringRef "ScarArmy" (342 : Nat) "no such enemies") ∈ lw_tbl := (tb_5 (List.mem_of_getElem? (i := 143) rfl))
set_option maxRecDepth 100000 in
theorem wl_1486 : (Jvm.Cond.stringRef "ScarArmy" (353 : Nat) "no such turn or day") ∈ lw_tbl := (tb_5 (List.mem_of_getElem? (i := 162) rfl))
set_option maxRecDepth 100000 in
theorem wl_1516 : (Jvm.Cond.stringRef "ScarArmy" (371 : Nat) "no such change") ∈ lw_tbl := (tb_5 (List.mem_of_getElem? (i := 192) rfl))
set_option maxRecDepth 100000 in
theorem wl_1574 : (Jvm.Cond.stringRef "ScarArmy" (418 : Nat) "nothing of the log") ∈ lw_tbl := (tb_6 (List.mem_of_getElem? (i := 10) rfl))
set_option maxRecDepth 100000 in
theorem wl_1712 : (Jvm.Cond.stringRef "ScarArmyModel" (159 : Nat) "battle") ∈ lw_tbl := (tb_6 (List.mem_of_getElem? (i := 148) rfl))
set_option maxRecDepth 100000 in
theorem wl_1735 : (Jvm.Cond.stringRef "ScarArmyModel" (128 : Nat) "day") ∈ lw_tbl := (tb_6 (List.mem_of_getElem? (i := 171) rfl))
set_option maxRecDepth 100000 in
theorem wl_1740 : (Jvm.Cond.stringRef "ScarArmyModel" (134 : Nat) "with") ∈ lw_tbl := (tb_6 (List.mem_of_getElem? (i := 176) rfl))
set_option maxRecDepth 100000 in
theorem wl_1745 : (Jvm.Cond.stringRef "ScarArmyModel" (164 : Nat) "man") ∈ lw_tbl := (tb_6 (List.mem_of_getElem? (i := 181) rfl))
set_option maxRecDepth 100000 in
theorem wl_1757 : (Jvm.Cond.stringRef "ScarArmyModel" (169 : Nat) "scar") ∈ lw_tbl := (tb_6 (List.mem_of_getElem? (i := 193) rfl))
set_option maxRecDepth 100000 in
theorem wl_1766 : (Jvm.Cond.stringRef "ScarArmyModel" (140 : Nat) "of") ∈ lw_tbl := (tb_6 (List.mem_of_getElem? (i := 202) rfl))
set_option maxRecDepth 100000 in
theorem wl_1767 : (Jvm.Cond.stringRef "ScarArmyModel" (142 : Nat) "in") ∈ lw_tbl := (tb_6 (List.mem_of_getElem? (i := 203) rfl))
set_option maxRecDepth 100000 in
theorem wl_1768 : (Jvm.Cond.stringRef "ScarArmyModel" (143 : Nat) "depth") ∈ lw_tbl := (tb_6 (List.mem_of_getElem? (i := 204) rfl))
set_option maxRecDepth 100000 in
theorem wl_1769 : (Jvm.Cond.stringRef "ScarArmyModel" (145 : Nat) "on") ∈ lw_tbl := (tb_6 (List.mem_of_getElem? (i := 205) rfl))
set_option maxRecDepth 100000 in
theorem wl_1770 : (Jvm.Cond.stringRef "ScarArmyModel" (147 : Nat) "by") ∈ lw_tbl := (tb_6 (List.mem_of_getElem? (i := 206) rfl))
set_option maxRecDepth 100000 in
theorem wl_1786 : (Jvm.Cond.stringRef "ScarArmyModel" (174 : Nat) "told") ∈ lw_tbl := (tb_6 (List.mem_of_getElem? (i := 222) rfl))
set_option maxRecDepth 100000 in
theorem wl_1791 : (Jvm.Cond.stringRef "ScarArmyModel" (179 : Nat) "dead") ∈ lw_tbl := (tb_6 (List.mem_of_getElem? (i := 227) rfl))
set_option maxRecDepth 100000 in
theorem wl_1796 : (Jvm.Cond.stringRef "ScarArmyModel" (184 : Nat) "today") ∈ lw_tbl := (tb_6 (List.mem_of_getElem? (i := 232) rfl))
set_option maxRecDepth 100000 in
theorem wl_1801 : (Jvm.Cond.stringRef "ScarArmyModel" (238 : Nat) "void") ∈ lw_tbl := (tb_6 (List.mem_of_getElem? (i := 237) rfl))
set_option maxRecDepth 100000 in
theorem wl_1802 : (Jvm.Cond.stringRef "ScarArmyModel" (240 : Nat) "worth") ∈ lw_tbl := (tb_6 (List.mem_of_getElem? (i := 238) rfl))
set_option maxRecDepth 100000 in
theorem wl_1803 : (Jvm.Cond.stringRef "ScarArmyModel" (242 : Nat) "less") ∈ lw_tbl := (tb_6 (List.mem_of_getElem? (i := 239) rfl))
set_option maxRecDepth 100000 in
theorem wl_1804 : (Jvm.Cond.stringRef "ScarArmyModel" (244 : Nat) "if") ∈ lw_tbl := (tb_7 (List.mem_of_getElem? (i := 0) rfl))
set_option maxRecDepth 100000 in
theorem wl_1821 : (Jvm.Cond.stringRef "ScarArmyModel" (220 : Nat) "not") ∈ lw_tbl := (tb_7 (List.mem_of_getElem? (i := 17) rfl))
set_option maxRecDepth 100000 in
theorem wl_1830 : (Jvm.Cond.stringRef "ScarArmyModel" (208 : Nat) "own") ∈ lw_tbl := (tb_7 (List.mem_of_getElem? (i := 26) rfl))
set_option maxRecDepth 100000 in
theorem wl_1831 : (Jvm.Cond.stringRef "ScarArmyModel" (210 : Nat) "fits") ∈ lw_tbl := (tb_7 (List.mem_of_getElem? (i := 27) rfl))
set_option maxRecDepth 100000 in
theorem wl_1832 : (Jvm.Cond.stringRef "ScarArmyModel" (212 : Nat) "ear") ∈ lw_tbl := (tb_7 (List.mem_of_getElem? (i := 28) rfl))
set_option maxRecDepth 100000 in
theorem wl_1841 : (Jvm.Cond.stringRef "ScarArmyModel" (193 : Nat) "place") ∈ lw_tbl := (tb_7 (List.mem_of_getElem? (i := 37) rfl))
set_option maxRecDepth 100000 in
theorem wl_1842 : (Jvm.Cond.stringRef "ScarArmyModel" (195 : Nat) "weapon") ∈ lw_tbl := (tb_7 (List.mem_of_getElem? (i := 38) rfl))
set_option maxRecDepth 100000 in
theorem wl_1843 : (Jvm.Cond.stringRef "ScarArmyModel" (197 : Nat) "days") ∈ lw_tbl := (tb_7 (List.mem_of_getElem? (i := 39) rfl))
set_option maxRecDepth 100000 in
theorem wl_1844 : (Jvm.Cond.stringRef "ScarArmyModel" (199 : Nat) "bearer") ∈ lw_tbl := (tb_7 (List.mem_of_getElem? (i := 40) rfl))
set_option maxRecDepth 100000 in
theorem wl_1845 : (Jvm.Cond.stringRef "ScarArmyModel" (231 : Nat) "and") ∈ lw_tbl := (tb_7 (List.mem_of_getElem? (i := 41) rfl))
set_option maxRecDepth 100000 in
theorem wl_1846 : (Jvm.Cond.stringRef "ScarArmyModel" (236 : Nat) "or") ∈ lw_tbl := (tb_7 (List.mem_of_getElem? (i := 42) rfl))
theorem thrW {own X : String} {ik : Nat} {L : List Cond} (h : ∀ w ∈ L, vx_ot w = true) (h1 : Cond.classLink own ik X ∈ pT) (h2 : Cond.initialized X ∈ pT) : ∀ w ∈ Cond.classLink own ik X :: Cond.initialized X :: L, vx_ot w = true := by
  intro w hw
  rcases List.mem_cons.mp hw with rfl | hw
  · unfold vx_ot; rw [pT_good h1, Bool.or_true]
  · rcases List.mem_cons.mp hw with rfl | hw
    · unfold vx_ot; rw [pT_good h2, Bool.or_true]
    · exact h w hw
set_option maxRecDepth 100000 in
theorem thrD : pThrD := by unfold pThrD; decide +kernel
set_option maxRecDepth 100000 in
theorem nseO_158 : nseO 158 := ⟨by decide +kernel, by decide +kernel, by decide +kernel⟩
set_option maxRecDepth 100000 in
theorem thr_X11_86_a : ∀ w ∈ (vx_atS "ScarArmy" 86 "java/lang/IllegalArgumentException" ["java/lang/RuntimeException", "java/lang/Exception"]).filter goodWord, w ∈ pT := by decide +kernel
theorem thr_X11_86_b : pThr "ScarArmy" 86 "java/lang/IllegalArgumentException" ["java/lang/RuntimeException", "java/lang/Exception"] = pThrB "java/lang/IllegalArgumentException" := by decide +kernel
theorem thr_X11_86_c : ∀ w ∈ vx_atS "ScarArmy" 86 "java/lang/IllegalArgumentException" ["java/lang/RuntimeException", "java/lang/Exception"], vx_ot w = true := by decide +kernel
set_option maxRecDepth 100000 in
theorem thr_X11_96_a : ∀ w ∈ (vx_atS "ScarArmy" 96 "java/lang/UnsupportedOperationException" ["java/lang/RuntimeException", "java/lang/Exception"]).filter goodWord, w ∈ pT := by decide +kernel
theorem thr_X11_96_b : pThr "ScarArmy" 96 "java/lang/UnsupportedOperationException" ["java/lang/RuntimeException", "java/lang/Exception"] = pThrB "java/lang/UnsupportedOperationException" := by decide +kernel
theorem thr_X11_96_c : ∀ w ∈ vx_atS "ScarArmy" 96 "java/lang/UnsupportedOperationException" ["java/lang/RuntimeException", "java/lang/Exception"], vx_ot w = true := by decide +kernel
set_option maxRecDepth 100000 in
theorem thr_X11_242_a : ∀ w ∈ (vx_atS "ScarArmy" 242 "java/lang/IllegalStateException" ["java/lang/RuntimeException", "java/lang/Exception"]).filter goodWord, w ∈ pT := by decide +kernel
theorem thr_X11_242_b : pThr "ScarArmy" 242 "java/lang/IllegalStateException" ["java/lang/RuntimeException", "java/lang/Exception"] = pThrB "java/lang/IllegalStateException" := by decide +kernel
theorem thr_X11_242_c : ∀ w ∈ vx_atS "ScarArmy" 242 "java/lang/IllegalStateException" ["java/lang/RuntimeException", "java/lang/Exception"], vx_ot w = true := by decide +kernel
set_option maxRecDepth 100000 in
theorem thr_X11_275_a : ∀ w ∈ (vx_atS "ScarArmy" 275 "java/lang/IndexOutOfBoundsException" ["java/lang/RuntimeException", "java/lang/Exception"]).filter goodWord, w ∈ pT := by decide +kernel
theorem thr_X11_275_b : pThr "ScarArmy" 275 "java/lang/IndexOutOfBoundsException" ["java/lang/RuntimeException", "java/lang/Exception"] = pThrB "java/lang/IndexOutOfBoundsException" := by decide +kernel
theorem thr_X11_275_c : ∀ w ∈ vx_atS "ScarArmy" 275 "java/lang/IndexOutOfBoundsException" ["java/lang/RuntimeException", "java/lang/Exception"], vx_ot w = true := by decide +kernel
