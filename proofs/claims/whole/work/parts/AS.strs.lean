/-! String constants: what the Statement gives of them, by its place -/
section STRS
/-- the parts of what the Statement gives of the start -/
def FLc : List Cond := flatC (Jvm.Cond.and given_1 narrow_1)
def stL (bs : List Int32) (o : String) (k : Nat) : List Cond := Cond.exactly (.string o k) "java/lang/String" :: Cond.eq (.field (.string o k) "java/lang/String" "coder" "B") (.int 0) :: Cond.arrayOf (.field (.string o k) "java/lang/String" "value" "[B") .byte :: Cond.eq (.length (.field (.string o k) "java/lang/String" "value" "[B")) (.int (Int32.ofNat bs.length)) :: (List.range bs.length).map (fun j => Cond.eq (.elem (.field (.string o k) "java/lang/String" "value" "[B") (.int (Int32.ofNat j))) (.int (bs.getD j 0)))
theorem fl_sub {p m : Nat} {l : List Cond} (h : (FLc.drop p).take m = l) : ∀ c ∈ l, c ∈ FLc := fun c hc => by rw [← h] at hc; exact List.mem_of_mem_drop (List.mem_of_mem_take hc)
/-- a String constant stands, or is one that stands -/
def srP (own : String) (k : Nat) : Prop := Cond.exactly (.string own k) "java/lang/String" ∈ FLc ∨ ∃ (o : String) (j : Nat), Cond.eq (.string own k) (.string o j) ∈ FLc ∧ Cond.exactly (.string o j) "java/lang/String" ∈ FLc
def stP (q : String × Nat × List Nat) : Prop := ∃ (o : String) (j : Nat), (∀ c ∈ stL (q.2.2.map nI) o j, c ∈ FLc) ∧ ((o = q.1 ∧ j = q.2.1) ∨ Cond.eq (.string q.1 q.2.1) (.string o j) ∈ FLc)
set_option maxRecDepth 100000 in
theorem se_0 : Cond.exactly (.string "ScarArmy" 84) "java/lang/String" ∈ FLc := List.mem_of_getElem? (i := 199) rfl
set_option maxRecDepth 100000 in
theorem se_1 : Cond.exactly (.string "ScarArmy" 94) "java/lang/String" ∈ FLc := List.mem_of_getElem? (i := 220) rfl
set_option maxRecDepth 100000 in
theorem se_2 : Cond.exactly (.string "ScarArmy" 156) "java/lang/String" ∈ FLc := List.mem_of_getElem? (i := 426) rfl
set_option maxRecDepth 100000 in
theorem se_3 : Cond.exactly (.string "ScarArmy" 193) "java/lang/String" ∈ FLc := List.mem_of_getElem? (i := 464) rfl
set_option maxRecDepth 100000 in
theorem se_4 : Cond.exactly (.string "ScarArmy" 231) "java/lang/String" ∈ FLc := List.mem_of_getElem? (i := 500) rfl
set_option maxRecDepth 100000 in
theorem se_5 : Cond.exactly (.string "ScarArmy" 236) "java/lang/String" ∈ FLc := List.mem_of_getElem? (i := 521) rfl
set_option maxRecDepth 100000 in
theorem se_6 : Cond.exactly (.string "ScarArmy" 240) "java/lang/String" ∈ FLc := List.mem_of_getElem? (i := 553) rfl
set_option maxRecDepth 100000 in
theorem se_7 : Cond.exactly (.string "ScarArmy" 253) "java/lang/String" ∈ FLc := List.mem_of_getElem? (i := 605) rfl
set_option maxRecDepth 100000 in
theorem se_8 : Cond.exactly (.string "ScarArmy" 259) "java/lang/String" ∈ FLc := List.mem_of_getElem? (i := 629) rfl
set_option maxRecDepth 100000 in
theorem se_9 : Cond.exactly (.string "ScarArmy" 264) "java/lang/String" ∈ FLc := List.mem_of_getElem? (i := 645) rfl
set_option maxRecDepth 100000 in
theorem se_10 : Cond.exactly (.string "ScarArmy" 266) "java/lang/String" ∈ FLc := List.mem_of_getElem? (i := 661) rfl
set_option maxRecDepth 100000 in
theorem se_11 : Cond.exactly (.string "ScarArmy" 273) "java/lang/String" ∈ FLc := List.mem_of_getElem? (i := 710) rfl
set_option maxRecDepth 100000 in
theorem se_12 : Cond.exactly (.string "ScarArmy" 276) "java/lang/String" ∈ FLc := List.mem_of_getElem? (i := 737) rfl
set_option maxRecDepth 100000 in
theorem se_13 : Cond.exactly (.string "ScarArmy" 278) "java/lang/String" ∈ FLc := List.mem_of_getElem? (i := 754) rfl
set_option maxRecDepth 100000 in
theorem se_14 : Cond.exactly (.string "ScarArmy" 283) "java/lang/String" ∈ FLc := List.mem_of_getElem? (i := 763) rfl
set_option maxRecDepth 100000 in
theorem se_15 : Cond.exactly (.string "ScarArmy" 289) "java/lang/String" ∈ FLc := List.mem_of_getElem? (i := 780) rfl
set_option maxRecDepth 100000 in
theorem se_16 : Cond.exactly (.string "ScarArmy" 326) "java/lang/String" ∈ FLc := List.mem_of_getElem? (i := 823) rfl
set_option maxRecDepth 100000 in
theorem se_17 : Cond.exactly (.string "ScarArmy" 342) "java/lang/String" ∈ FLc := List.mem_of_getElem? (i := 840) rfl
set_option maxRecDepth 100000 in
theorem se_18 : Cond.exactly (.string "ScarArmy" 353) "java/lang/String" ∈ FLc := List.mem_of_getElem? (i := 859) rfl
set_option maxRecDepth 100000 in
theorem se_19 : Cond.exactly (.string "ScarArmy" 371) "java/lang/String" ∈ FLc := List.mem_of_getElem? (i := 882) rfl
set_option maxRecDepth 100000 in
theorem se_20 : Cond.exactly (.string "ScarArmy" 418) "java/lang/String" ∈ FLc := List.mem_of_getElem? (i := 900) rfl
set_option maxRecDepth 100000 in
theorem se_21 : Cond.exactly (.string "ScarArmy" 443) "java/lang/String" ∈ FLc := List.mem_of_getElem? (i := 408) rfl
set_option maxRecDepth 100000 in
theorem se_22 : Cond.exactly (.string "ScarArmy" 445) "java/lang/String" ∈ FLc := List.mem_of_getElem? (i := 449) rfl
set_option maxRecDepth 100000 in
theorem se_23 : Cond.exactly (.string "ScarArmy" 447) "java/lang/String" ∈ FLc := List.mem_of_getElem? (i := 484) rfl
set_option maxRecDepth 100000 in
theorem se_24 : Cond.exactly (.string "ScarArmy" 449) "java/lang/String" ∈ FLc := List.mem_of_getElem? (i := 588) rfl
set_option maxRecDepth 100000 in
theorem se_25 : Cond.exactly (.string "ScarArmy" 451) "java/lang/String" ∈ FLc := List.mem_of_getElem? (i := 796) rfl
set_option maxRecDepth 100000 in
theorem se_26 : Cond.exactly (.string "ScarArmy$ArmyText" 32) "java/lang/String" ∈ FLc := List.mem_of_getElem? (i := 194) rfl
set_option maxRecDepth 100000 in
theorem se_27 : Cond.exactly (.string "ScarArmy$ArmyText" 38) "java/lang/String" ∈ FLc := List.mem_of_getElem? (i := 96) rfl
set_option maxRecDepth 100000 in
theorem se_28 : Cond.exactly (.string "ScarArmy$ArmyText" 53) "java/lang/String" ∈ FLc := List.mem_of_getElem? (i := 121) rfl
set_option maxRecDepth 100000 in
theorem se_29 : Cond.exactly (.string "ScarArmy$ArmyText" 63) "java/lang/String" ∈ FLc := List.mem_of_getElem? (i := 128) rfl
set_option maxRecDepth 100000 in
theorem se_30 : Cond.exactly (.string "ScarArmy$ArmyText" 68) "java/lang/String" ∈ FLc := List.mem_of_getElem? (i := 169) rfl
set_option maxRecDepth 100000 in
theorem se_31 : Cond.exactly (.string "ScarArmy$ArmyText" 78) "java/lang/String" ∈ FLc := List.mem_of_getElem? (i := 177) rfl
set_option maxRecDepth 100000 in
theorem se_32 : Cond.exactly (.string "ScarArmy$ArmyText" 89) "java/lang/String" ∈ FLc := List.mem_of_getElem? (i := 186) rfl
set_option maxRecDepth 100000 in
theorem se_33 : Cond.exactly (.string "ScarArmy$ArmyText" 106) "java/lang/String" ∈ FLc := List.mem_of_getElem? (i := 106) rfl
set_option maxRecDepth 100000 in
theorem se_34 : Cond.exactly (.string "ScarArmy$ArmyText" 108) "java/lang/String" ∈ FLc := List.mem_of_getElem? (i := 113) rfl
set_option maxRecDepth 100000 in
theorem se_35 : Cond.exactly (.string "ScarArmy$ArmyText" 123) "java/lang/String" ∈ FLc := List.mem_of_getElem? (i := 136) rfl
set_option maxRecDepth 100000 in
theorem se_36 : Cond.exactly (.string "ScarArmy$ArmyText" 125) "java/lang/String" ∈ FLc := List.mem_of_getElem? (i := 142) rfl
set_option maxRecDepth 100000 in
theorem se_37 : Cond.exactly (.string "ScarArmy$ArmyText" 127) "java/lang/String" ∈ FLc := List.mem_of_getElem? (i := 148) rfl
set_option maxRecDepth 100000 in
theorem se_38 : Cond.exactly (.string "ScarArmy$ArmyText" 129) "java/lang/String" ∈ FLc := List.mem_of_getElem? (i := 157) rfl
set_option maxRecDepth 100000 in
theorem se_39 : Cond.exactly (.string "ScarArmy$ArmyText" 134) "java/lang/String" ∈ FLc := List.mem_of_getElem? (i := 163) rfl
set_option maxRecDepth 100000 in
theorem se_40 : Cond.exactly (.string "ScarArmy$LawText" 43) "java/lang/String" ∈ FLc := List.mem_of_getElem? (i := 402) rfl
set_option maxRecDepth 100000 in
theorem se_41 : Cond.exactly (.string "ScarArmy$LawText" 58) "java/lang/String" ∈ FLc := List.mem_of_getElem? (i := 237) rfl
set_option maxRecDepth 100000 in
theorem se_42 : Cond.exactly (.string "ScarArmy$LawText" 63) "java/lang/String" ∈ FLc := List.mem_of_getElem? (i := 246) rfl
set_option maxRecDepth 100000 in
theorem se_43 : Cond.exactly (.string "ScarArmy$LawText" 65) "java/lang/String" ∈ FLc := List.mem_of_getElem? (i := 254) rfl
set_option maxRecDepth 100000 in
theorem se_44 : Cond.exactly (.string "ScarArmy$LawText" 81) "java/lang/String" ∈ FLc := List.mem_of_getElem? (i := 262) rfl
set_option maxRecDepth 100000 in
theorem se_45 : Cond.exactly (.string "ScarArmy$LawText" 90) "java/lang/String" ∈ FLc := List.mem_of_getElem? (i := 389) rfl
set_option maxRecDepth 100000 in
theorem se_46 : Cond.exactly (.string "ScarArmy$LawText" 92) "java/lang/String" ∈ FLc := List.mem_of_getElem? (i := 396) rfl
set_option maxRecDepth 100000 in
theorem se_47 : Cond.exactly (.string "ScarArmy$LawText" 94) "java/lang/String" ∈ FLc := List.mem_of_getElem? (i := 268) rfl
set_option maxRecDepth 100000 in
theorem se_48 : Cond.exactly (.string "ScarArmy$LawText" 96) "java/lang/String" ∈ FLc := List.mem_of_getElem? (i := 275) rfl
set_option maxRecDepth 100000 in
theorem se_49 : Cond.exactly (.string "ScarArmy$LawText" 101) "java/lang/String" ∈ FLc := List.mem_of_getElem? (i := 280) rfl
set_option maxRecDepth 100000 in
theorem se_50 : Cond.exactly (.string "ScarArmy$LawText" 110) "java/lang/String" ∈ FLc := List.mem_of_getElem? (i := 379) rfl
set_option maxRecDepth 100000 in
theorem se_51 : Cond.exactly (.string "ScarArmy$LawText" 112) "java/lang/String" ∈ FLc := List.mem_of_getElem? (i := 384) rfl
set_option maxRecDepth 100000 in
theorem se_52 : Cond.exactly (.string "ScarArmy$LawText" 117) "java/lang/String" ∈ FLc := List.mem_of_getElem? (i := 374) rfl
set_option maxRecDepth 100000 in
theorem se_53 : Cond.exactly (.string "ScarArmy$LawText" 119) "java/lang/String" ∈ FLc := List.mem_of_getElem? (i := 285) rfl
set_option maxRecDepth 100000 in
theorem se_54 : Cond.exactly (.string "ScarArmy$LawText" 121) "java/lang/String" ∈ FLc := List.mem_of_getElem? (i := 292) rfl
set_option maxRecDepth 100000 in
theorem se_55 : Cond.exactly (.string "ScarArmy$LawText" 123) "java/lang/String" ∈ FLc := List.mem_of_getElem? (i := 300) rfl
set_option maxRecDepth 100000 in
theorem se_56 : Cond.exactly (.string "ScarArmy$LawText" 125) "java/lang/String" ∈ FLc := List.mem_of_getElem? (i := 307) rfl
set_option maxRecDepth 100000 in
theorem se_57 : Cond.exactly (.string "ScarArmy$LawText" 127) "java/lang/String" ∈ FLc := List.mem_of_getElem? (i := 316) rfl
set_option maxRecDepth 100000 in
theorem se_58 : Cond.exactly (.string "ScarArmy$LawText" 129) "java/lang/String" ∈ FLc := List.mem_of_getElem? (i := 326) rfl
set_option maxRecDepth 100000 in
theorem se_59 : Cond.exactly (.string "ScarArmy$LawText" 131) "java/lang/String" ∈ FLc := List.mem_of_getElem? (i := 337) rfl
set_option maxRecDepth 100000 in
theorem se_60 : Cond.exactly (.string "ScarArmy$LawText" 133) "java/lang/String" ∈ FLc := List.mem_of_getElem? (i := 347) rfl
set_option maxRecDepth 100000 in
theorem se_61 : Cond.exactly (.string "ScarArmy$LawText" 135) "java/lang/String" ∈ FLc := List.mem_of_getElem? (i := 356) rfl
set_option maxRecDepth 100000 in
theorem se_62 : Cond.exactly (.string "ScarArmy$LawText" 137) "java/lang/String" ∈ FLc := List.mem_of_getElem? (i := 364) rfl
set_option maxRecDepth 100000 in
theorem se_63 : Cond.exactly (.string "ScarArmyModel" 128) "java/lang/String" ∈ FLc := List.mem_of_getElem? (i := 934) rfl
set_option maxRecDepth 100000 in
theorem se_64 : Cond.exactly (.string "ScarArmyModel" 134) "java/lang/String" ∈ FLc := List.mem_of_getElem? (i := 942) rfl
set_option maxRecDepth 100000 in
theorem se_65 : Cond.exactly (.string "ScarArmyModel" 140) "java/lang/String" ∈ FLc := List.mem_of_getElem? (i := 968) rfl
set_option maxRecDepth 100000 in
theorem se_66 : Cond.exactly (.string "ScarArmyModel" 142) "java/lang/String" ∈ FLc := List.mem_of_getElem? (i := 975) rfl
set_option maxRecDepth 100000 in
theorem se_67 : Cond.exactly (.string "ScarArmyModel" 143) "java/lang/String" ∈ FLc := List.mem_of_getElem? (i := 982) rfl
set_option maxRecDepth 100000 in
theorem se_68 : Cond.exactly (.string "ScarArmyModel" 145) "java/lang/String" ∈ FLc := List.mem_of_getElem? (i := 993) rfl
set_option maxRecDepth 100000 in
theorem se_69 : Cond.exactly (.string "ScarArmyModel" 147) "java/lang/String" ∈ FLc := List.mem_of_getElem? (i := 1000) rfl
set_option maxRecDepth 100000 in
theorem se_70 : Cond.exactly (.string "ScarArmyModel" 159) "java/lang/String" ∈ FLc := List.mem_of_getElem? (i := 922) rfl
set_option maxRecDepth 100000 in
theorem se_71 : Cond.exactly (.string "ScarArmyModel" 164) "java/lang/String" ∈ FLc := List.mem_of_getElem? (i := 951) rfl
set_option maxRecDepth 100000 in
theorem se_72 : Cond.exactly (.string "ScarArmyModel" 169) "java/lang/String" ∈ FLc := List.mem_of_getElem? (i := 959) rfl
set_option maxRecDepth 100000 in
theorem se_73 : Cond.exactly (.string "ScarArmyModel" 174) "java/lang/String" ∈ FLc := List.mem_of_getElem? (i := 1007) rfl
set_option maxRecDepth 100000 in
theorem se_74 : Cond.exactly (.string "ScarArmyModel" 179) "java/lang/String" ∈ FLc := List.mem_of_getElem? (i := 1017) rfl
set_option maxRecDepth 100000 in
theorem se_75 : Cond.exactly (.string "ScarArmyModel" 184) "java/lang/String" ∈ FLc := List.mem_of_getElem? (i := 1027) rfl
set_option maxRecDepth 100000 in
theorem se_76 : Cond.exactly (.string "ScarArmyModel" 193) "java/lang/String" ∈ FLc := List.mem_of_getElem? (i := 1105) rfl
set_option maxRecDepth 100000 in
theorem se_77 : Cond.exactly (.string "ScarArmyModel" 195) "java/lang/String" ∈ FLc := List.mem_of_getElem? (i := 1115) rfl
set_option maxRecDepth 100000 in
theorem se_78 : Cond.exactly (.string "ScarArmyModel" 197) "java/lang/String" ∈ FLc := List.mem_of_getElem? (i := 1126) rfl
set_option maxRecDepth 100000 in
theorem se_79 : Cond.exactly (.string "ScarArmyModel" 199) "java/lang/String" ∈ FLc := List.mem_of_getElem? (i := 1135) rfl
set_option maxRecDepth 100000 in
theorem se_80 : Cond.exactly (.string "ScarArmyModel" 208) "java/lang/String" ∈ FLc := List.mem_of_getElem? (i := 1080) rfl
set_option maxRecDepth 100000 in
theorem se_81 : Cond.exactly (.string "ScarArmyModel" 210) "java/lang/String" ∈ FLc := List.mem_of_getElem? (i := 1088) rfl
set_option maxRecDepth 100000 in
theorem se_82 : Cond.exactly (.string "ScarArmyModel" 212) "java/lang/String" ∈ FLc := List.mem_of_getElem? (i := 1097) rfl
set_option maxRecDepth 100000 in
theorem se_83 : Cond.exactly (.string "ScarArmyModel" 220) "java/lang/String" ∈ FLc := List.mem_of_getElem? (i := 1072) rfl
set_option maxRecDepth 100000 in
theorem se_84 : Cond.exactly (.string "ScarArmyModel" 231) "java/lang/String" ∈ FLc := List.mem_of_getElem? (i := 1146) rfl
set_option maxRecDepth 100000 in
theorem se_85 : Cond.exactly (.string "ScarArmyModel" 236) "java/lang/String" ∈ FLc := List.mem_of_getElem? (i := 1154) rfl
set_option maxRecDepth 100000 in
theorem se_86 : Cond.exactly (.string "ScarArmyModel" 238) "java/lang/String" ∈ FLc := List.mem_of_getElem? (i := 1037) rfl
set_option maxRecDepth 100000 in
theorem se_87 : Cond.exactly (.string "ScarArmyModel" 240) "java/lang/String" ∈ FLc := List.mem_of_getElem? (i := 1046) rfl
set_option maxRecDepth 100000 in
theorem se_88 : Cond.exactly (.string "ScarArmyModel" 242) "java/lang/String" ∈ FLc := List.mem_of_getElem? (i := 1056) rfl
set_option maxRecDepth 100000 in
theorem se_89 : Cond.exactly (.string "ScarArmyModel" 244) "java/lang/String" ∈ FLc := List.mem_of_getElem? (i := 1065) rfl
set_option maxRecDepth 100000 in
theorem sl_26 : ∀ c ∈ stL ([59].map nI) "ScarArmy$ArmyText" 32, c ∈ FLc := fl_sub (p := 194) (m := 5) rfl
set_option maxRecDepth 100000 in
theorem sl_27 : ∀ c ∈ stL ([98, 97, 116, 116, 108, 101].map nI) "ScarArmy$ArmyText" 38, c ∈ FLc := fl_sub (p := 96) (m := 10) rfl
set_option maxRecDepth 100000 in
theorem sl_28 : ∀ c ∈ stL ([109, 97, 110].map nI) "ScarArmy$ArmyText" 53, c ∈ FLc := fl_sub (p := 121) (m := 7) rfl
set_option maxRecDepth 100000 in
theorem sl_29 : ∀ c ∈ stL ([115, 99, 97, 114].map nI) "ScarArmy$ArmyText" 63, c ∈ FLc := fl_sub (p := 128) (m := 8) rfl
set_option maxRecDepth 100000 in
theorem sl_30 : ∀ c ∈ stL ([116, 111, 108, 100].map nI) "ScarArmy$ArmyText" 68, c ∈ FLc := fl_sub (p := 169) (m := 8) rfl
set_option maxRecDepth 100000 in
theorem sl_31 : ∀ c ∈ stL ([116, 111, 100, 97, 121].map nI) "ScarArmy$ArmyText" 78, c ∈ FLc := fl_sub (p := 177) (m := 9) rfl
set_option maxRecDepth 100000 in
theorem sl_32 : ∀ c ∈ stL ([100, 101, 97, 100].map nI) "ScarArmy$ArmyText" 89, c ∈ FLc := fl_sub (p := 186) (m := 8) rfl
set_option maxRecDepth 100000 in
theorem sl_33 : ∀ c ∈ stL ([100, 97, 121].map nI) "ScarArmy$ArmyText" 106, c ∈ FLc := fl_sub (p := 106) (m := 7) rfl
set_option maxRecDepth 100000 in
theorem sl_34 : ∀ c ∈ stL ([119, 105, 116, 104].map nI) "ScarArmy$ArmyText" 108, c ∈ FLc := fl_sub (p := 113) (m := 8) rfl
set_option maxRecDepth 100000 in
theorem sl_35 : ∀ c ∈ stL ([111, 102].map nI) "ScarArmy$ArmyText" 123, c ∈ FLc := fl_sub (p := 136) (m := 6) rfl
set_option maxRecDepth 100000 in
theorem sl_36 : ∀ c ∈ stL ([105, 110].map nI) "ScarArmy$ArmyText" 125, c ∈ FLc := fl_sub (p := 142) (m := 6) rfl
set_option maxRecDepth 100000 in
theorem sl_37 : ∀ c ∈ stL ([100, 101, 112, 116, 104].map nI) "ScarArmy$ArmyText" 127, c ∈ FLc := fl_sub (p := 148) (m := 9) rfl
set_option maxRecDepth 100000 in
theorem sl_38 : ∀ c ∈ stL ([111, 110].map nI) "ScarArmy$ArmyText" 129, c ∈ FLc := fl_sub (p := 157) (m := 6) rfl
set_option maxRecDepth 100000 in
theorem sl_39 : ∀ c ∈ stL ([98, 121].map nI) "ScarArmy$ArmyText" 134, c ∈ FLc := fl_sub (p := 163) (m := 6) rfl
set_option maxRecDepth 100000 in
theorem sl_40 : ∀ c ∈ stL ([59].map nI) "ScarArmy$LawText" 43, c ∈ FLc := fl_sub (p := 402) (m := 5) rfl
set_option maxRecDepth 100000 in
theorem sl_41 : ∀ c ∈ stL ([119, 111, 114, 116, 104].map nI) "ScarArmy$LawText" 58, c ∈ FLc := fl_sub (p := 237) (m := 9) rfl
set_option maxRecDepth 100000 in
theorem sl_42 : ∀ c ∈ stL ([108, 101, 115, 115].map nI) "ScarArmy$LawText" 63, c ∈ FLc := fl_sub (p := 246) (m := 8) rfl
set_option maxRecDepth 100000 in
theorem sl_43 : ∀ c ∈ stL ([118, 111, 105, 100].map nI) "ScarArmy$LawText" 65, c ∈ FLc := fl_sub (p := 254) (m := 8) rfl
set_option maxRecDepth 100000 in
theorem sl_44 : ∀ c ∈ stL ([105, 102].map nI) "ScarArmy$LawText" 81, c ∈ FLc := fl_sub (p := 262) (m := 6) rfl
set_option maxRecDepth 100000 in
theorem sl_45 : ∀ c ∈ stL ([97, 110, 100].map nI) "ScarArmy$LawText" 90, c ∈ FLc := fl_sub (p := 389) (m := 7) rfl
set_option maxRecDepth 100000 in
theorem sl_46 : ∀ c ∈ stL ([111, 114].map nI) "ScarArmy$LawText" 92, c ∈ FLc := fl_sub (p := 396) (m := 6) rfl
set_option maxRecDepth 100000 in
theorem sl_47 : ∀ c ∈ stL ([110, 111, 116].map nI) "ScarArmy$LawText" 94, c ∈ FLc := fl_sub (p := 268) (m := 7) rfl
set_option maxRecDepth 100000 in
theorem sl_48 : ∀ c ∈ stL ([40].map nI) "ScarArmy$LawText" 96, c ∈ FLc := fl_sub (p := 275) (m := 5) rfl
set_option maxRecDepth 100000 in
theorem sl_49 : ∀ c ∈ stL ([41].map nI) "ScarArmy$LawText" 101, c ∈ FLc := fl_sub (p := 280) (m := 5) rfl
set_option maxRecDepth 100000 in
theorem sl_50 : ∀ c ∈ stL ([60].map nI) "ScarArmy$LawText" 110, c ∈ FLc := fl_sub (p := 379) (m := 5) rfl
set_option maxRecDepth 100000 in
theorem sl_51 : ∀ c ∈ stL ([62].map nI) "ScarArmy$LawText" 112, c ∈ FLc := fl_sub (p := 384) (m := 5) rfl
set_option maxRecDepth 100000 in
theorem sl_52 : ∀ c ∈ stL ([43].map nI) "ScarArmy$LawText" 117, c ∈ FLc := fl_sub (p := 374) (m := 5) rfl
set_option maxRecDepth 100000 in
theorem sl_53 : ∀ c ∈ stL ([111, 119, 110].map nI) "ScarArmy$LawText" 119, c ∈ FLc := fl_sub (p := 285) (m := 7) rfl
set_option maxRecDepth 100000 in
theorem sl_54 : ∀ c ∈ stL ([102, 105, 116, 115].map nI) "ScarArmy$LawText" 121, c ∈ FLc := fl_sub (p := 292) (m := 8) rfl
set_option maxRecDepth 100000 in
theorem sl_55 : ∀ c ∈ stL ([101, 97, 114].map nI) "ScarArmy$LawText" 123, c ∈ FLc := fl_sub (p := 300) (m := 7) rfl
set_option maxRecDepth 100000 in
theorem sl_56 : ∀ c ∈ stL ([112, 108, 97, 99, 101].map nI) "ScarArmy$LawText" 125, c ∈ FLc := fl_sub (p := 307) (m := 9) rfl
set_option maxRecDepth 100000 in
theorem sl_57 : ∀ c ∈ stL ([119, 101, 97, 112, 111, 110].map nI) "ScarArmy$LawText" 127, c ∈ FLc := fl_sub (p := 316) (m := 10) rfl
set_option maxRecDepth 100000 in
theorem sl_58 : ∀ c ∈ stL ([98, 97, 116, 116, 108, 101].map nI) "ScarArmy$LawText" 129, c ∈ FLc := fl_sub (p := 326) (m := 10) rfl
set_option maxRecDepth 100000 in
theorem sl_59 : ∀ c ∈ stL ([100, 101, 112, 116, 104].map nI) "ScarArmy$LawText" 131, c ∈ FLc := fl_sub (p := 337) (m := 9) rfl
set_option maxRecDepth 100000 in
theorem sl_60 : ∀ c ∈ stL ([116, 111, 108, 100].map nI) "ScarArmy$LawText" 133, c ∈ FLc := fl_sub (p := 347) (m := 8) rfl
set_option maxRecDepth 100000 in
theorem sl_61 : ∀ c ∈ stL ([100, 97, 121, 115].map nI) "ScarArmy$LawText" 135, c ∈ FLc := fl_sub (p := 356) (m := 8) rfl
set_option maxRecDepth 100000 in
theorem sl_62 : ∀ c ∈ stL ([98, 101, 97, 114, 101, 114].map nI) "ScarArmy$LawText" 137, c ∈ FLc := fl_sub (p := 364) (m := 10) rfl
set_option maxRecDepth 100000 in
theorem sl_63 : ∀ c ∈ stL ([100, 97, 121].map nI) "ScarArmyModel" 128, c ∈ FLc := fl_sub (p := 934) (m := 7) rfl
set_option maxRecDepth 100000 in
theorem sl_64 : ∀ c ∈ stL ([119, 105, 116, 104].map nI) "ScarArmyModel" 134, c ∈ FLc := fl_sub (p := 942) (m := 8) rfl
set_option maxRecDepth 100000 in
theorem sl_65 : ∀ c ∈ stL ([111, 102].map nI) "ScarArmyModel" 140, c ∈ FLc := fl_sub (p := 968) (m := 6) rfl
set_option maxRecDepth 100000 in
theorem sl_66 : ∀ c ∈ stL ([105, 110].map nI) "ScarArmyModel" 142, c ∈ FLc := fl_sub (p := 975) (m := 6) rfl
set_option maxRecDepth 100000 in
theorem sl_67 : ∀ c ∈ stL ([100, 101, 112, 116, 104].map nI) "ScarArmyModel" 143, c ∈ FLc := fl_sub (p := 982) (m := 9) rfl
set_option maxRecDepth 100000 in
theorem sl_68 : ∀ c ∈ stL ([111, 110].map nI) "ScarArmyModel" 145, c ∈ FLc := fl_sub (p := 993) (m := 6) rfl
set_option maxRecDepth 100000 in
theorem sl_69 : ∀ c ∈ stL ([98, 121].map nI) "ScarArmyModel" 147, c ∈ FLc := fl_sub (p := 1000) (m := 6) rfl
set_option maxRecDepth 100000 in
theorem sl_70 : ∀ c ∈ stL ([98, 97, 116, 116, 108, 101].map nI) "ScarArmyModel" 159, c ∈ FLc := fl_sub (p := 922) (m := 10) rfl
set_option maxRecDepth 100000 in
theorem sl_71 : ∀ c ∈ stL ([109, 97, 110].map nI) "ScarArmyModel" 164, c ∈ FLc := fl_sub (p := 951) (m := 7) rfl
set_option maxRecDepth 100000 in
theorem sl_72 : ∀ c ∈ stL ([115, 99, 97, 114].map nI) "ScarArmyModel" 169, c ∈ FLc := fl_sub (p := 959) (m := 8) rfl
set_option maxRecDepth 100000 in
theorem sl_73 : ∀ c ∈ stL ([116, 111, 108, 100].map nI) "ScarArmyModel" 174, c ∈ FLc := fl_sub (p := 1007) (m := 8) rfl
set_option maxRecDepth 100000 in
theorem sl_74 : ∀ c ∈ stL ([100, 101, 97, 100].map nI) "ScarArmyModel" 179, c ∈ FLc := fl_sub (p := 1017) (m := 8) rfl
set_option maxRecDepth 100000 in
theorem sl_75 : ∀ c ∈ stL ([116, 111, 100, 97, 121].map nI) "ScarArmyModel" 184, c ∈ FLc := fl_sub (p := 1027) (m := 9) rfl
set_option maxRecDepth 100000 in
theorem sl_76 : ∀ c ∈ stL ([112, 108, 97, 99, 101].map nI) "ScarArmyModel" 193, c ∈ FLc := fl_sub (p := 1105) (m := 9) rfl
set_option maxRecDepth 100000 in
theorem sl_77 : ∀ c ∈ stL ([119, 101, 97, 112, 111, 110].map nI) "ScarArmyModel" 195, c ∈ FLc := fl_sub (p := 1115) (m := 10) rfl
set_option maxRecDepth 100000 in
theorem sl_78 : ∀ c ∈ stL ([100, 97, 121, 115].map nI) "ScarArmyModel" 197, c ∈ FLc := fl_sub (p := 1126) (m := 8) rfl
set_option maxRecDepth 100000 in
theorem sl_79 : ∀ c ∈ stL ([98, 101, 97, 114, 101, 114].map nI) "ScarArmyModel" 199, c ∈ FLc := fl_sub (p := 1135) (m := 10) rfl
set_option maxRecDepth 100000 in
theorem sl_80 : ∀ c ∈ stL ([111, 119, 110].map nI) "ScarArmyModel" 208, c ∈ FLc := fl_sub (p := 1080) (m := 7) rfl
set_option maxRecDepth 100000 in
theorem sl_81 : ∀ c ∈ stL ([102, 105, 116, 115].map nI) "ScarArmyModel" 210, c ∈ FLc := fl_sub (p := 1088) (m := 8) rfl
set_option maxRecDepth 100000 in
theorem sl_82 : ∀ c ∈ stL ([101, 97, 114].map nI) "ScarArmyModel" 212, c ∈ FLc := fl_sub (p := 1097) (m := 7) rfl
set_option maxRecDepth 100000 in
theorem sl_83 : ∀ c ∈ stL ([110, 111, 116].map nI) "ScarArmyModel" 220, c ∈ FLc := fl_sub (p := 1072) (m := 7) rfl
set_option maxRecDepth 100000 in
theorem sl_84 : ∀ c ∈ stL ([97, 110, 100].map nI) "ScarArmyModel" 231, c ∈ FLc := fl_sub (p := 1146) (m := 7) rfl
set_option maxRecDepth 100000 in
theorem sl_85 : ∀ c ∈ stL ([111, 114].map nI) "ScarArmyModel" 236, c ∈ FLc := fl_sub (p := 1154) (m := 6) rfl
set_option maxRecDepth 100000 in
theorem sl_86 : ∀ c ∈ stL ([118, 111, 105, 100].map nI) "ScarArmyModel" 238, c ∈ FLc := fl_sub (p := 1037) (m := 8) rfl
set_option maxRecDepth 100000 in
theorem sl_87 : ∀ c ∈ stL ([119, 111, 114, 116, 104].map nI) "ScarArmyModel" 240, c ∈ FLc := fl_sub (p := 1046) (m := 9) rfl
set_option maxRecDepth 100000 in
theorem sl_88 : ∀ c ∈ stL ([108, 101, 115, 115].map nI) "ScarArmyModel" 242, c ∈ FLc := fl_sub (p := 1056) (m := 8) rfl
set_option maxRecDepth 100000 in
theorem sl_89 : ∀ c ∈ stL ([105, 102].map nI) "ScarArmyModel" 244, c ∈ FLc := fl_sub (p := 1065) (m := 6) rfl
theorem sq_0 : stP ("ScarArmy$ArmyText", 38, [98, 97, 116, 116, 108, 101]) := ⟨_, _, sl_27, Or.inl ⟨rfl, rfl⟩⟩
theorem sq_1 : stP ("ScarArmy$ArmyText", 106, [100, 97, 121]) := ⟨_, _, sl_33, Or.inl ⟨rfl, rfl⟩⟩
theorem sq_2 : stP ("ScarArmy$ArmyText", 108, [119, 105, 116, 104]) := ⟨_, _, sl_34, Or.inl ⟨rfl, rfl⟩⟩
theorem sq_3 : stP ("ScarArmy$ArmyText", 53, [109, 97, 110]) := ⟨_, _, sl_28, Or.inl ⟨rfl, rfl⟩⟩
theorem sq_4 : stP ("ScarArmy$ArmyText", 63, [115, 99, 97, 114]) := ⟨_, _, sl_29, Or.inl ⟨rfl, rfl⟩⟩
theorem sq_5 : stP ("ScarArmy$ArmyText", 123, [111, 102]) := ⟨_, _, sl_35, Or.inl ⟨rfl, rfl⟩⟩
theorem sq_6 : stP ("ScarArmy$ArmyText", 125, [105, 110]) := ⟨_, _, sl_36, Or.inl ⟨rfl, rfl⟩⟩
theorem sq_7 : stP ("ScarArmy$ArmyText", 127, [100, 101, 112, 116, 104]) := ⟨_, _, sl_37, Or.inl ⟨rfl, rfl⟩⟩
theorem sq_8 : stP ("ScarArmy$ArmyText", 129, [111, 110]) := ⟨_, _, sl_38, Or.inl ⟨rfl, rfl⟩⟩
theorem sq_9 : stP ("ScarArmy$ArmyText", 134, [98, 121]) := ⟨_, _, sl_39, Or.inl ⟨rfl, rfl⟩⟩
theorem sq_10 : stP ("ScarArmy$ArmyText", 68, [116, 111, 108, 100]) := ⟨_, _, sl_30, Or.inl ⟨rfl, rfl⟩⟩
theorem sq_11 : stP ("ScarArmy$ArmyText", 78, [116, 111, 100, 97, 121]) := ⟨_, _, sl_31, Or.inl ⟨rfl, rfl⟩⟩
theorem sq_12 : stP ("ScarArmy$ArmyText", 89, [100, 101, 97, 100]) := ⟨_, _, sl_32, Or.inl ⟨rfl, rfl⟩⟩
theorem sq_13 : stP ("ScarArmy$ArmyText", 32, [59]) := ⟨_, _, sl_26, Or.inl ⟨rfl, rfl⟩⟩
theorem sq_14 : stP ("ScarArmy$LawText", 58, [119, 111, 114, 116, 104]) := ⟨_, _, sl_41, Or.inl ⟨rfl, rfl⟩⟩
theorem sq_15 : stP ("ScarArmy$LawText", 63, [108, 101, 115, 115]) := ⟨_, _, sl_42, Or.inl ⟨rfl, rfl⟩⟩
theorem sq_16 : stP ("ScarArmy$LawText", 65, [118, 111, 105, 100]) := ⟨_, _, sl_43, Or.inl ⟨rfl, rfl⟩⟩
theorem sq_17 : stP ("ScarArmy$LawText", 81, [105, 102]) := ⟨_, _, sl_44, Or.inl ⟨rfl, rfl⟩⟩
theorem sq_18 : stP ("ScarArmy$LawText", 94, [110, 111, 116]) := ⟨_, _, sl_47, Or.inl ⟨rfl, rfl⟩⟩
theorem sq_19 : stP ("ScarArmy$LawText", 96, [40]) := ⟨_, _, sl_48, Or.inl ⟨rfl, rfl⟩⟩
theorem sq_20 : stP ("ScarArmy$LawText", 101, [41]) := ⟨_, _, sl_49, Or.inl ⟨rfl, rfl⟩⟩
theorem sq_21 : stP ("ScarArmy$LawText", 119, [111, 119, 110]) := ⟨_, _, sl_53, Or.inl ⟨rfl, rfl⟩⟩
theorem sq_22 : stP ("ScarArmy$LawText", 121, [102, 105, 116, 115]) := ⟨_, _, sl_54, Or.inl ⟨rfl, rfl⟩⟩
theorem sq_23 : stP ("ScarArmy$LawText", 123, [101, 97, 114]) := ⟨_, _, sl_55, Or.inl ⟨rfl, rfl⟩⟩
theorem sq_24 : stP ("ScarArmy$LawText", 125, [112, 108, 97, 99, 101]) := ⟨_, _, sl_56, Or.inl ⟨rfl, rfl⟩⟩
theorem sq_25 : stP ("ScarArmy$LawText", 127, [119, 101, 97, 112, 111, 110]) := ⟨_, _, sl_57, Or.inl ⟨rfl, rfl⟩⟩
theorem sq_26 : stP ("ScarArmy$LawText", 129, [98, 97, 116, 116, 108, 101]) := ⟨_, _, sl_58, Or.inl ⟨rfl, rfl⟩⟩
theorem sq_27 : stP ("ScarArmy$LawText", 131, [100, 101, 112, 116, 104]) := ⟨_, _, sl_59, Or.inl ⟨rfl, rfl⟩⟩
theorem sq_28 : stP ("ScarArmy$LawText", 133, [116, 111, 108, 100]) := ⟨_, _, sl_60, Or.inl ⟨rfl, rfl⟩⟩
theorem sq_29 : stP ("ScarArmy$LawText", 135, [100, 97, 121, 115]) := ⟨_, _, sl_61, Or.inl ⟨rfl, rfl⟩⟩
theorem sq_30 : stP ("ScarArmy$LawText", 137, [98, 101, 97, 114, 101, 114]) := ⟨_, _, sl_62, Or.inl ⟨rfl, rfl⟩⟩
theorem sq_31 : stP ("ScarArmy$LawText", 117, [43]) := ⟨_, _, sl_52, Or.inl ⟨rfl, rfl⟩⟩
theorem sq_32 : stP ("ScarArmy$LawText", 110, [60]) := ⟨_, _, sl_50, Or.inl ⟨rfl, rfl⟩⟩
theorem sq_33 : stP ("ScarArmy$LawText", 112, [62]) := ⟨_, _, sl_51, Or.inl ⟨rfl, rfl⟩⟩
theorem sq_34 : stP ("ScarArmy$LawText", 90, [97, 110, 100]) := ⟨_, _, sl_45, Or.inl ⟨rfl, rfl⟩⟩
theorem sq_35 : stP ("ScarArmy$LawText", 92, [111, 114]) := ⟨_, _, sl_46, Or.inl ⟨rfl, rfl⟩⟩
theorem sq_36 : stP ("ScarArmy$LawText", 43, [59]) := ⟨_, _, sl_40, Or.inl ⟨rfl, rfl⟩⟩
theorem sq_37 : stP ("ScarArmyModel", 159, [98, 97, 116, 116, 108, 101]) := ⟨_, _, sl_70, Or.inl ⟨rfl, rfl⟩⟩
theorem sq_38 : stP ("ScarArmyModel", 128, [100, 97, 121]) := ⟨_, _, sl_63, Or.inl ⟨rfl, rfl⟩⟩
theorem sq_39 : stP ("ScarArmyModel", 134, [119, 105, 116, 104]) := ⟨_, _, sl_64, Or.inl ⟨rfl, rfl⟩⟩
theorem sq_40 : stP ("ScarArmyModel", 164, [109, 97, 110]) := ⟨_, _, sl_71, Or.inl ⟨rfl, rfl⟩⟩
theorem sq_41 : stP ("ScarArmyModel", 169, [115, 99, 97, 114]) := ⟨_, _, sl_72, Or.inl ⟨rfl, rfl⟩⟩
theorem sq_42 : stP ("ScarArmyModel", 140, [111, 102]) := ⟨_, _, sl_65, Or.inl ⟨rfl, rfl⟩⟩
theorem sq_43 : stP ("ScarArmyModel", 142, [105, 110]) := ⟨_, _, sl_66, Or.inl ⟨rfl, rfl⟩⟩
theorem sq_44 : stP ("ScarArmyModel", 143, [100, 101, 112, 116, 104]) := ⟨_, _, sl_67, Or.inl ⟨rfl, rfl⟩⟩
theorem sq_45 : stP ("ScarArmyModel", 145, [111, 110]) := ⟨_, _, sl_68, Or.inl ⟨rfl, rfl⟩⟩
theorem sq_46 : stP ("ScarArmyModel", 147, [98, 121]) := ⟨_, _, sl_69, Or.inl ⟨rfl, rfl⟩⟩
theorem sq_47 : stP ("ScarArmyModel", 174, [116, 111, 108, 100]) := ⟨_, _, sl_73, Or.inl ⟨rfl, rfl⟩⟩
theorem sq_48 : stP ("ScarArmyModel", 179, [100, 101, 97, 100]) := ⟨_, _, sl_74, Or.inl ⟨rfl, rfl⟩⟩
theorem sq_49 : stP ("ScarArmyModel", 184, [116, 111, 100, 97, 121]) := ⟨_, _, sl_75, Or.inl ⟨rfl, rfl⟩⟩
theorem sq_50 : stP ("ScarArmyModel", 238, [118, 111, 105, 100]) := ⟨_, _, sl_86, Or.inl ⟨rfl, rfl⟩⟩
theorem sq_51 : stP ("ScarArmyModel", 240, [119, 111, 114, 116, 104]) := ⟨_, _, sl_87, Or.inl ⟨rfl, rfl⟩⟩
theorem sq_52 : stP ("ScarArmyModel", 242, [108, 101, 115, 115]) := ⟨_, _, sl_88, Or.inl ⟨rfl, rfl⟩⟩
theorem sq_53 : stP ("ScarArmyModel", 244, [105, 102]) := ⟨_, _, sl_89, Or.inl ⟨rfl, rfl⟩⟩
theorem sq_54 : stP ("ScarArmyModel", 220, [110, 111, 116]) := ⟨_, _, sl_83, Or.inl ⟨rfl, rfl⟩⟩
theorem sq_55 : stP ("ScarArmyModel", 208, [111, 119, 110]) := ⟨_, _, sl_80, Or.inl ⟨rfl, rfl⟩⟩
theorem sq_56 : stP ("ScarArmyModel", 210, [102, 105, 116, 115]) := ⟨_, _, sl_81, Or.inl ⟨rfl, rfl⟩⟩
theorem sq_57 : stP ("ScarArmyModel", 212, [101, 97, 114]) := ⟨_, _, sl_82, Or.inl ⟨rfl, rfl⟩⟩
theorem sq_58 : stP ("ScarArmyModel", 193, [112, 108, 97, 99, 101]) := ⟨_, _, sl_76, Or.inl ⟨rfl, rfl⟩⟩
theorem sq_59 : stP ("ScarArmyModel", 195, [119, 101, 97, 112, 111, 110]) := ⟨_, _, sl_77, Or.inl ⟨rfl, rfl⟩⟩
theorem sq_60 : stP ("ScarArmyModel", 197, [100, 97, 121, 115]) := ⟨_, _, sl_78, Or.inl ⟨rfl, rfl⟩⟩
theorem sq_61 : stP ("ScarArmyModel", 199, [98, 101, 97, 114, 101, 114]) := ⟨_, _, sl_79, Or.inl ⟨rfl, rfl⟩⟩
theorem sq_62 : stP ("ScarArmyModel", 231, [97, 110, 100]) := ⟨_, _, sl_84, Or.inl ⟨rfl, rfl⟩⟩
theorem sq_63 : stP ("ScarArmyModel", 236, [111, 114]) := ⟨_, _, sl_85, Or.inl ⟨rfl, rfl⟩⟩
set_option maxRecDepth 100000 in
theorem st_strs : ∀ q ∈ strs, stP q := (List.forall_mem_cons.mpr ⟨sq_0, (List.forall_mem_cons.mpr ⟨sq_1, (List.forall_mem_cons.mpr ⟨sq_2, (List.forall_mem_cons.mpr ⟨sq_3, (List.forall_mem_cons.mpr ⟨sq_4, (List.forall_mem_cons.mpr ⟨sq_5, (List.forall_mem_cons.mpr ⟨sq_6, (List.forall_mem_cons.mpr ⟨sq_7, (List.forall_mem_cons.mpr ⟨sq_8, (List.forall_mem_cons.mpr ⟨sq_9, (List.forall_mem_cons.mpr ⟨sq_10, (List.forall_mem_cons.mpr ⟨sq_11, (List.forall_mem_cons.mpr ⟨sq_12, (List.forall_mem_cons.mpr ⟨sq_13, (List.forall_mem_cons.mpr ⟨sq_14, (List.forall_mem_cons.mpr ⟨sq_15, (List.forall_mem_cons.mpr ⟨sq_16, (List.forall_mem_cons.mpr ⟨sq_17, (List.forall_mem_cons.mpr ⟨sq_18, (List.forall_mem_cons.mpr ⟨sq_19, (List.forall_mem_cons.mpr ⟨sq_20, (List.forall_mem_cons.mpr ⟨sq_21, (List.forall_mem_cons.mpr ⟨sq_22, (List.forall_mem_cons.mpr ⟨sq_23, (List.forall_mem_cons.mpr ⟨sq_24, (List.forall_mem_cons.mpr ⟨sq_25, (List.forall_mem_cons.mpr ⟨sq_26, (List.forall_mem_cons.mpr ⟨sq_27, (List.forall_mem_cons.mpr ⟨sq_28, (List.forall_mem_cons.mpr ⟨sq_29, (List.forall_mem_cons.mpr ⟨sq_30, (List.forall_mem_cons.mpr ⟨sq_31, (List.forall_mem_cons.mpr ⟨sq_32, (List.forall_mem_cons.mpr ⟨sq_33, (List.forall_mem_cons.mpr ⟨sq_34, (List.forall_mem_cons.mpr ⟨sq_35, (List.forall_mem_cons.mpr ⟨sq_36, (List.forall_mem_cons.mpr ⟨sq_37, (List.forall_mem_cons.mpr ⟨sq_38, (List.forall_mem_cons.mpr ⟨sq_39, (List.forall_mem_cons.mpr ⟨sq_40, (List.forall_mem_cons.mpr ⟨sq_41, (List.forall_mem_cons.mpr ⟨sq_42, (List.forall_mem_cons.mpr ⟨sq_43, (List.forall_mem_cons.mpr ⟨sq_44, (List.forall_mem_cons.mpr ⟨sq_45, (List.forall_mem_cons.mpr ⟨sq_46, (List.forall_mem_cons.mpr ⟨sq_47, (List.forall_mem_cons.mpr ⟨sq_48, (List.forall_mem_cons.mpr ⟨sq_49, (List.forall_mem_cons.mpr ⟨sq_50, (List.forall_mem_cons.mpr ⟨sq_51, (List.forall_mem_cons.mpr ⟨sq_52, (List.forall_mem_cons.mpr ⟨sq_53, (List.forall_mem_cons.mpr ⟨sq_54, (List.forall_mem_cons.mpr ⟨sq_55, (List.forall_mem_cons.mpr ⟨sq_56, (List.forall_mem_cons.mpr ⟨sq_57, (List.forall_mem_cons.mpr ⟨sq_58, (List.forall_mem_cons.mpr ⟨sq_59, (List.forall_mem_cons.mpr ⟨sq_60, (List.forall_mem_cons.mpr ⟨sq_61, (List.forall_mem_cons.mpr ⟨sq_62, (List.forall_mem_cons.mpr ⟨sq_63, (fun _ h => nomatch h)⟩)⟩)⟩)⟩)⟩)⟩)⟩)⟩)⟩)⟩)⟩)⟩)⟩)⟩)⟩)⟩)⟩)⟩)⟩)⟩)⟩)⟩)⟩)⟩)⟩)⟩)⟩)⟩)⟩)⟩)⟩)⟩)⟩)⟩)⟩)⟩)⟩)⟩)⟩)⟩)⟩)⟩)⟩)⟩)⟩)⟩)⟩)⟩)⟩)⟩)⟩)⟩)⟩)⟩)⟩)⟩)⟩)⟩)⟩)⟩)⟩)⟩)⟩)⟩)
def isSR (w : Cond) : Bool := match w with
  | .stringRef _ _ _ => true
  | _ => false
def SRL : List Cond := [.stringRef "ScarArmy$ArmyText" 38 "battle", .stringRef "ScarArmy$ArmyText" 106 "day", .stringRef "ScarArmy$ArmyText" 108 "with", .stringRef "ScarArmy$ArmyText" 53 "man", .stringRef "ScarArmy$ArmyText" 63 "scar", .stringRef "ScarArmy$ArmyText" 123 "of", .stringRef "ScarArmy$ArmyText" 125 "in", .stringRef "ScarArmy$ArmyText" 127 "depth", .stringRef "ScarArmy$ArmyText" 129 "on", .stringRef "ScarArmy$ArmyText" 134 "by", .stringRef "ScarArmy$ArmyText" 68 "told", .stringRef "ScarArmy$ArmyText" 78 "today", .stringRef "ScarArmy$ArmyText" 89 "dead", .stringRef "ScarArmy$ArmyText" 32 ";", .stringRef "ScarArmy" 84 "the text is wrong", .stringRef "ScarArmy" 94 "no more texts", .stringRef "ScarArmy$LawText" 58 "worth", .stringRef "ScarArmy$LawText" 63 "less", .stringRef "ScarArmy$LawText" 65 "void", .stringRef "ScarArmy$LawText" 81 "if", .stringRef "ScarArmy$LawText" 94 "not", .stringRef "ScarArmy$LawText" 96 "(", .stringRef "ScarArmy$LawText" 101 ")", .stringRef "ScarArmy$LawText" 119 "own", .stringRef "ScarArmy$LawText" 121 "fits", .stringRef "ScarArmy$LawText" 123 "ear", .stringRef "ScarArmy$LawText" 125 "place", .stringRef "ScarArmy$LawText" 127 "weapon", .stringRef "ScarArmy$LawText" 129 "battle", .stringRef "ScarArmy$LawText" 131 "depth", .stringRef "ScarArmy$LawText" 133 "told", .stringRef "ScarArmy$LawText" 135 "days", .stringRef "ScarArmy$LawText" 137 "bearer", .stringRef "ScarArmy$LawText" 117 "+", .stringRef "ScarArmy$LawText" 110 "<", .stringRef "ScarArmy$LawText" 112 ">", .stringRef "ScarArmy$LawText" 90 "and", .stringRef "ScarArmy$LawText" 92 "or", .stringRef "ScarArmy$LawText" 43 ";", .stringRef "ScarArmy" 443 "no such battle", .stringRef "ScarArmy" 156 "nothing of a battle", .stringRef "ScarArmy" 445 "no such man", .stringRef "ScarArmy" 193 "nothing of a man", .stringRef "ScarArmy" 447 "no such scar", .stringRef "ScarArmy" 231 "nothing of a scar", .stringRef "ScarArmy" 236 "no such pay, or both are one", .stringRef "ScarArmy" 240 "one is dead, or has not so much", .stringRef "ScarArmy" 449 "no such trade", .stringRef "ScarArmy" 253 "by that trade it was", .stringRef "ScarArmy" 259 "dead already", .stringRef "ScarArmy" 264 "both are one", .stringRef "ScarArmy" 266 "the first one lives, or the other one is dead", .stringRef "ScarArmy" 273 "no such place or weapon", .stringRef "ScarArmy" 276 "no such depth", .stringRef "ScarArmy" 278 "dead", .stringRef "ScarArmy" 283 "no more scars", .stringRef "ScarArmy" 289 "no such days", .stringRef "ScarArmy" 451 "no such number of sales", .stringRef "ScarArmy" 326 "no such looks", .stringRef "ScarArmy" 342 "no such enemies", .stringRef "ScarArmy" 353 "no such turn or day", .stringRef "ScarArmy" 371 "no such change", .stringRef "ScarArmy" 418 "nothing of the log", .stringRef "ScarArmyModel" 159 "battle", .stringRef "ScarArmyModel" 128 "day", .stringRef "ScarArmyModel" 134 "with", .stringRef "ScarArmyModel" 164 "man", .stringRef "ScarArmyModel" 169 "scar", .stringRef "ScarArmyModel" 140 "of", .stringRef "ScarArmyModel" 142 "in", .stringRef "ScarArmyModel" 143 "depth", .stringRef "ScarArmyModel" 145 "on", .stringRef "ScarArmyModel" 147 "by", .stringRef "ScarArmyModel" 174 "told", .stringRef "ScarArmyModel" 179 "dead", .stringRef "ScarArmyModel" 184 "today", .stringRef "ScarArmyModel" 238 "void", .stringRef "ScarArmyModel" 240 "worth", .stringRef "ScarArmyModel" 242 "less", .stringRef "ScarArmyModel" 244 "if", .stringRef "ScarArmyModel" 220 "not", .stringRef "ScarArmyModel" 208 "own", .stringRef "ScarArmyModel" 210 "fits", .stringRef "ScarArmyModel" 212 "ear", .stringRef "ScarArmyModel" 193 "place", .stringRef "ScarArmyModel" 195 "weapon", .stringRef "ScarArmyModel" 197 "days", .stringRef "ScarArmyModel" 199 "bearer", .stringRef "ScarArmyModel" 231 "and", .stringRef "ScarArmyModel" 236 "or"]
def srW (w : Cond) : Prop := match w with
  | .stringRef own k _ => srP own k
  | _ => True
theorem sr_0 : srW (.stringRef "ScarArmy$ArmyText" 38 "battle") := Or.inl se_27
theorem sr_1 : srW (.stringRef "ScarArmy$ArmyText" 106 "day") := Or.inl se_33
theorem sr_2 : srW (.stringRef "ScarArmy$ArmyText" 108 "with") := Or.inl se_34
theorem sr_3 : srW (.stringRef "ScarArmy$ArmyText" 53 "man") := Or.inl se_28
theorem sr_4 : srW (.stringRef "ScarArmy$ArmyText" 63 "scar") := Or.inl se_29
theorem sr_5 : srW (.stringRef "ScarArmy$ArmyText" 123 "of") := Or.inl se_35
theorem sr_6 : srW (.stringRef "ScarArmy$ArmyText" 125 "in") := Or.inl se_36
theorem sr_7 : srW (.stringRef "ScarArmy$ArmyText" 127 "depth") := Or.inl se_37
theorem sr_8 : srW (.stringRef "ScarArmy$ArmyText" 129 "on") := Or.inl se_38
theorem sr_9 : srW (.stringRef "ScarArmy$ArmyText" 134 "by") := Or.inl se_39
theorem sr_10 : srW (.stringRef "ScarArmy$ArmyText" 68 "told") := Or.inl se_30
theorem sr_11 : srW (.stringRef "ScarArmy$ArmyText" 78 "today") := Or.inl se_31
theorem sr_12 : srW (.stringRef "ScarArmy$ArmyText" 89 "dead") := Or.inl se_32
theorem sr_13 : srW (.stringRef "ScarArmy$ArmyText" 32 ";") := Or.inl se_26
theorem sr_14 : srW (.stringRef "ScarArmy" 84 "the text is wrong") := Or.inl se_0
theorem sr_15 : srW (.stringRef "ScarArmy" 94 "no more texts") := Or.inl se_1
theorem sr_16 : srW (.stringRef "ScarArmy$LawText" 58 "worth") := Or.inl se_41
theorem sr_17 : srW (.stringRef "ScarArmy$LawText" 63 "less") := Or.inl se_42
theorem sr_18 : srW (.stringRef "ScarArmy$LawText" 65 "void") := Or.inl se_43
theorem sr_19 : srW (.stringRef "ScarArmy$LawText" 81 "if") := Or.inl se_44
theorem sr_20 : srW (.stringRef "ScarArmy$LawText" 94 "not") := Or.inl se_47
theorem sr_21 : srW (.stringRef "ScarArmy$LawText" 96 "(") := Or.inl se_48
theorem sr_22 : srW (.stringRef "ScarArmy$LawText" 101 ")") := Or.inl se_49
theorem sr_23 : srW (.stringRef "ScarArmy$LawText" 119 "own") := Or.inl se_53
theorem sr_24 : srW (.stringRef "ScarArmy$LawText" 121 "fits") := Or.inl se_54
theorem sr_25 : srW (.stringRef "ScarArmy$LawText" 123 "ear") := Or.inl se_55
theorem sr_26 : srW (.stringRef "ScarArmy$LawText" 125 "place") := Or.inl se_56
theorem sr_27 : srW (.stringRef "ScarArmy$LawText" 127 "weapon") := Or.inl se_57
theorem sr_28 : srW (.stringRef "ScarArmy$LawText" 129 "battle") := Or.inl se_58
theorem sr_29 : srW (.stringRef "ScarArmy$LawText" 131 "depth") := Or.inl se_59
theorem sr_30 : srW (.stringRef "ScarArmy$LawText" 133 "told") := Or.inl se_60
theorem sr_31 : srW (.stringRef "ScarArmy$LawText" 135 "days") := Or.inl se_61
theorem sr_32 : srW (.stringRef "ScarArmy$LawText" 137 "bearer") := Or.inl se_62
theorem sr_33 : srW (.stringRef "ScarArmy$LawText" 117 "+") := Or.inl se_52
theorem sr_34 : srW (.stringRef "ScarArmy$LawText" 110 "<") := Or.inl se_50
theorem sr_35 : srW (.stringRef "ScarArmy$LawText" 112 ">") := Or.inl se_51
theorem sr_36 : srW (.stringRef "ScarArmy$LawText" 90 "and") := Or.inl se_45
theorem sr_37 : srW (.stringRef "ScarArmy$LawText" 92 "or") := Or.inl se_46
theorem sr_38 : srW (.stringRef "ScarArmy$LawText" 43 ";") := Or.inl se_40
theorem sr_39 : srW (.stringRef "ScarArmy" 443 "no such battle") := Or.inl se_21
theorem sr_40 : srW (.stringRef "ScarArmy" 156 "nothing of a battle") := Or.inl se_2
theorem sr_41 : srW (.stringRef "ScarArmy" 445 "no such man") := Or.inl se_22
theorem sr_42 : srW (.stringRef "ScarArmy" 193 "nothing of a man") := Or.inl se_3
theorem sr_43 : srW (.stringRef "ScarArmy" 447 "no such scar") := Or.inl se_23
theorem sr_44 : srW (.stringRef "ScarArmy" 231 "nothing of a scar") := Or.inl se_4
theorem sr_45 : srW (.stringRef "ScarArmy" 236 "no such pay, or both are one") := Or.inl se_5
theorem sr_46 : srW (.stringRef "ScarArmy" 240 "one is dead, or has not so much") := Or.inl se_6
theorem sr_47 : srW (.stringRef "ScarArmy" 449 "no such trade") := Or.inl se_24
theorem sr_48 : srW (.stringRef "ScarArmy" 253 "by that trade it was") := Or.inl se_7
theorem sr_49 : srW (.stringRef "ScarArmy" 259 "dead already") := Or.inl se_8
theorem sr_50 : srW (.stringRef "ScarArmy" 264 "both are one") := Or.inl se_9
theorem sr_51 : srW (.stringRef "ScarArmy" 266 "the first one lives, or the other one is dead") := Or.inl se_10
theorem sr_52 : srW (.stringRef "ScarArmy" 273 "no such place or weapon") := Or.inl se_11
theorem sr_53 : srW (.stringRef "ScarArmy" 276 "no such depth") := Or.inl se_12
theorem sr_54 : srW (.stringRef "ScarArmy" 278 "dead") := Or.inl se_13
theorem sr_55 : srW (.stringRef "ScarArmy" 283 "no more scars") := Or.inl se_14
theorem sr_56 : srW (.stringRef "ScarArmy" 289 "no such days") := Or.inl se_15
theorem sr_57 : srW (.stringRef "ScarArmy" 451 "no such number of sales") := Or.inl se_25
theorem sr_58 : srW (.stringRef "ScarArmy" 326 "no such looks") := Or.inl se_16
theorem sr_59 : srW (.stringRef "ScarArmy" 342 "no such enemies") := Or.inl se_17
theorem sr_60 : srW (.stringRef "ScarArmy" 353 "no such turn or day") := Or.inl se_18
theorem sr_61 : srW (.stringRef "ScarArmy" 371 "no such change") := Or.inl se_19
theorem sr_62 : srW (.stringRef "ScarArmy" 418 "nothing of the log") := Or.inl se_20
theorem sr_63 : srW (.stringRef "ScarArmyModel" 159 "battle") := Or.inl se_70
theorem sr_64 : srW (.stringRef "ScarArmyModel" 128 "day") := Or.inl se_63
theorem sr_65 : srW (.stringRef "ScarArmyModel" 134 "with") := Or.inl se_64
theorem sr_66 : srW (.stringRef "ScarArmyModel" 164 "man") := Or.inl se_71
theorem sr_67 : srW (.stringRef "ScarArmyModel" 169 "scar") := Or.inl se_72
theorem sr_68 : srW (.stringRef "ScarArmyModel" 140 "of") := Or.inl se_65
theorem sr_69 : srW (.stringRef "ScarArmyModel" 142 "in") := Or.inl se_66
theorem sr_70 : srW (.stringRef "ScarArmyModel" 143 "depth") := Or.inl se_67
theorem sr_71 : srW (.stringRef "ScarArmyModel" 145 "on") := Or.inl se_68
theorem sr_72 : srW (.stringRef "ScarArmyModel" 147 "by") := Or.inl se_69
theorem sr_73 : srW (.stringRef "ScarArmyModel" 174 "told") := Or.inl se_73
theorem sr_74 : srW (.stringRef "ScarArmyModel" 179 "dead") := Or.inl se_74
theorem sr_75 : srW (.stringRef "ScarArmyModel" 184 "today") := Or.inl se_75
theorem sr_76 : srW (.stringRef "ScarArmyModel" 238 "void") := Or.inl se_86
theorem sr_77 : srW (.stringRef "ScarArmyModel" 240 "worth") := Or.inl se_87
theorem sr_78 : srW (.stringRef "ScarArmyModel" 242 "less") := Or.inl se_88
theorem sr_79 : srW (.stringRef "ScarArmyModel" 244 "if") := Or.inl se_89
theorem sr_80 : srW (.stringRef "ScarArmyModel" 220 "not") := Or.inl se_83
theorem sr_81 : srW (.stringRef "ScarArmyModel" 208 "own") := Or.inl se_80
theorem sr_82 : srW (.stringRef "ScarArmyModel" 210 "fits") := Or.inl se_81
theorem sr_83 : srW (.stringRef "ScarArmyModel" 212 "ear") := Or.inl se_82
theorem sr_84 : srW (.stringRef "ScarArmyModel" 193 "place") := Or.inl se_76
theorem sr_85 : srW (.stringRef "ScarArmyModel" 195 "weapon") := Or.inl se_77
theorem sr_86 : srW (.stringRef "ScarArmyModel" 197 "days") := Or.inl se_78
theorem sr_87 : srW (.stringRef "ScarArmyModel" 199 "bearer") := Or.inl se_79
theorem sr_88 : srW (.stringRef "ScarArmyModel" 231 "and") := Or.inl se_84
theorem sr_89 : srW (.stringRef "ScarArmyModel" 236 "or") := Or.inl se_85
set_option maxRecDepth 100000 in
theorem sr_srl : ∀ w ∈ SRL, srW w := (List.forall_mem_cons.mpr ⟨sr_0, (List.forall_mem_cons.mpr ⟨sr_1, (List.forall_mem_cons.mpr ⟨sr_2, (List.forall_mem_cons.mpr ⟨sr_3, (List.forall_mem_cons.mpr ⟨sr_4, (List.forall_mem_cons.mpr ⟨sr_5, (List.forall_mem_cons.mpr ⟨sr_6, (List.forall_mem_cons.mpr ⟨sr_7, (List.forall_mem_cons.mpr ⟨sr_8, (List.forall_mem_cons.mpr ⟨sr_9, (List.forall_mem_cons.mpr ⟨sr_10, (List.forall_mem_cons.mpr ⟨sr_11, (List.forall_mem_cons.mpr ⟨sr_12, (List.forall_mem_cons.mpr ⟨sr_13, (List.forall_mem_cons.mpr ⟨sr_14, (List.forall_mem_cons.mpr ⟨sr_15, (List.forall_mem_cons.mpr ⟨sr_16, (List.forall_mem_cons.mpr ⟨sr_17, (List.forall_mem_cons.mpr ⟨sr_18, (List.forall_mem_cons.mpr ⟨sr_19, (List.forall_mem_cons.mpr ⟨sr_20, (List.forall_mem_cons.mpr ⟨sr_21, (List.forall_mem_cons.mpr ⟨sr_22, (List.forall_mem_cons.mpr ⟨sr_23, (List.forall_mem_cons.mpr ⟨sr_24, (List.forall_mem_cons.mpr ⟨sr_25, (List.forall_mem_cons.mpr ⟨sr_26, (List.forall_mem_cons.mpr ⟨sr_27, (List.forall_mem_cons.mpr ⟨sr_28, (List.forall_mem_cons.mpr ⟨sr_29, (List.forall_mem_cons.mpr ⟨sr_30, (List.forall_mem_cons.mpr ⟨sr_31, (List.forall_mem_cons.mpr ⟨sr_32, (List.forall_mem_cons.mpr ⟨sr_33, (List.forall_mem_cons.mpr ⟨sr_34, (List.forall_mem_cons.mpr ⟨sr_35, (List.forall_mem_cons.mpr ⟨sr_36, (List.forall_mem_cons.mpr ⟨sr_37, (List.forall_mem_cons.mpr ⟨sr_38, (List.forall_mem_cons.mpr ⟨sr_39, (List.forall_mem_cons.mpr ⟨sr_40, (List.forall_mem_cons.mpr ⟨sr_41, (List.forall_mem_cons.mpr ⟨sr_42, (List.forall_mem_cons.mpr ⟨sr_43, (List.forall_mem_cons.mpr ⟨sr_44, (List.forall_mem_cons.mpr ⟨sr_45, (List.forall_mem_cons.mpr ⟨sr_46, (List.forall_mem_cons.mpr ⟨sr_47, (List.forall_mem_cons.mpr ⟨sr_48, (List.forall_mem_cons.mpr ⟨sr_49, (List.forall_mem_cons.mpr ⟨sr_50, (List.forall_mem_cons.mpr ⟨sr_51, (List.forall_mem_cons.mpr ⟨sr_52, (List.forall_mem_cons.mpr ⟨sr_53, (List.forall_mem_cons.mpr ⟨sr_54, (List.forall_mem_cons.mpr ⟨sr_55, (List.forall_mem_cons.mpr ⟨sr_56, (List.forall_mem_cons.mpr ⟨sr_57, (List.forall_mem_cons.mpr ⟨sr_58, (List.forall_mem_cons.mpr ⟨sr_59, (List.forall_mem_cons.mpr ⟨sr_60, (List.forall_mem_cons.mpr ⟨sr_61, (List.forall_mem_cons.mpr ⟨sr_62, (List.forall_mem_cons.mpr ⟨sr_63, (List.forall_mem_cons.mpr ⟨sr_64, (List.forall_mem_cons.mpr ⟨sr_65, (List.forall_mem_cons.mpr ⟨sr_66, (List.forall_mem_cons.mpr ⟨sr_67, (List.forall_mem_cons.mpr ⟨sr_68, (List.forall_mem_cons.mpr ⟨sr_69, (List.forall_mem_cons.mpr ⟨sr_70, (List.forall_mem_cons.mpr ⟨sr_71, (List.forall_mem_cons.mpr ⟨sr_72, (List.forall_mem_cons.mpr ⟨sr_73, (List.forall_mem_cons.mpr ⟨sr_74, (List.forall_mem_cons.mpr ⟨sr_75, (List.forall_mem_cons.mpr ⟨sr_76, (List.forall_mem_cons.mpr ⟨sr_77, (List.forall_mem_cons.mpr ⟨sr_78, (List.forall_mem_cons.mpr ⟨sr_79, (List.forall_mem_cons.mpr ⟨sr_80, (List.forall_mem_cons.mpr ⟨sr_81, (List.forall_mem_cons.mpr ⟨sr_82, (List.forall_mem_cons.mpr ⟨sr_83, (List.forall_mem_cons.mpr ⟨sr_84, (List.forall_mem_cons.mpr ⟨sr_85, (List.forall_mem_cons.mpr ⟨sr_86, (List.forall_mem_cons.mpr ⟨sr_87, (List.forall_mem_cons.mpr ⟨sr_88, (List.forall_mem_cons.mpr ⟨sr_89, (fun _ h => nomatch h)⟩)⟩)⟩)⟩)⟩)⟩)⟩)⟩)⟩)⟩)⟩)⟩)⟩)⟩)⟩)⟩)⟩)⟩)⟩)⟩)⟩)⟩)⟩)⟩)⟩)⟩)⟩)⟩)⟩)⟩)⟩)⟩)⟩)⟩)⟩)⟩)⟩)⟩)⟩)⟩)⟩)⟩)⟩)⟩)⟩)⟩)⟩)⟩)⟩)⟩)⟩)⟩)⟩)⟩)⟩)⟩)⟩)⟩)⟩)⟩)⟩)⟩)⟩)⟩)⟩)⟩)⟩)⟩)⟩)⟩)⟩)⟩)⟩)⟩)⟩)⟩)⟩)⟩)⟩)⟩)⟩)⟩)⟩)⟩)⟩)⟩)⟩)⟩)⟩)⟩)
set_option maxRecDepth 100000 in
theorem sr_list : lw_tbl.filter isSR = SRL := rfl
theorem sr_all {own tx : String} {k : Nat} (hw : Cond.stringRef own k tx ∈ lw_tbl) : srP own k := by
  have h : Cond.stringRef own k tx ∈ lw_tbl.filter isSR := List.mem_filter.mpr ⟨hw, rfl⟩
  rw [sr_list] at h
  exact sr_srl _ h
end STRS
