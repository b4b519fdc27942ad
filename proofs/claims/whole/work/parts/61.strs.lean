/-! the words of the two programs -/
section STRS
variable {E : PE}
def strs : List (String × Nat × List Nat) := [("ScarArmy$ArmyText", 38, [98, 97, 116, 116, 108, 101]), ("ScarArmy$ArmyText", 106, [100, 97, 121]), ("ScarArmy$ArmyText", 108, [119, 105, 116, 104]), ("ScarArmy$ArmyText", 53, [109, 97, 110]), ("ScarArmy$ArmyText", 63, [115, 99, 97, 114]), ("ScarArmy$ArmyText", 123, [111, 102]), ("ScarArmy$ArmyText", 125, [105, 110]), ("ScarArmy$ArmyText", 127, [100, 101, 112, 116, 104]), ("ScarArmy$ArmyText", 129, [111, 110]), ("ScarArmy$ArmyText", 134, [98, 121]), ("ScarArmy$ArmyText", 68, [116, 111, 108, 100]), ("ScarArmy$ArmyText", 78, [116, 111, 100, 97, 121]), ("ScarArmy$ArmyText", 89, [100, 101, 97, 100]), ("ScarArmy$ArmyText", 32, [59]), ("ScarArmy$LawText", 58, [119, 111, 114, 116, 104]), ("ScarArmy$LawText", 63, [108, 101, 115, 115]), ("ScarArmy$LawText", 65, [118, 111, 105, 100]), ("ScarArmy$LawText", 81, [105, 102]), ("ScarArmy$LawText", 94, [110, 111, 116]), ("ScarArmy$LawText", 96, [40]), ("ScarArmy$LawText", 101, [41]), ("ScarArmy$LawText", 119, [111, 119, 110]), ("ScarArmy$LawText", 121, [102, 105, 116, 115]), ("ScarArmy$LawText", 123, [101, 97, 114]), ("ScarArmy$LawText", 125, [112, 108, 97, 99, 101]), ("ScarArmy$LawText", 127, [119, 101, 97, 112, 111, 110]), ("ScarArmy$LawText", 129, [98, 97, 116, 116, 108, 101]), ("ScarArmy$LawText", 131, [100, 101, 112, 116, 104]), ("ScarArmy$LawText", 133, [116, 111, 108, 100]), ("ScarArmy$LawText", 135, [100, 97, 121, 115]), ("ScarArmy$LawText", 137, [98, 101, 97, 114, 101, 114]), ("ScarArmy$LawText", 117, [43]), ("ScarArmy$LawText", 110, [60]), ("ScarArmy$LawText", 112, [62]), ("ScarArmy$LawText", 90, [97, 110, 100]), ("ScarArmy$LawText", 92, [111, 114]), ("ScarArmy$LawText", 43, [59]), ("ScarArmyModel", 159, [98, 97, 116, 116, 108, 101]), ("ScarArmyModel", 128, [100, 97, 121]), ("ScarArmyModel", 134, [119, 105, 116, 104]), ("ScarArmyModel", 164, [109, 97, 110]), ("ScarArmyModel", 169, [115, 99, 97, 114]), ("ScarArmyModel", 140, [111, 102]), ("ScarArmyModel", 142, [105, 110]), ("ScarArmyModel", 143, [100, 101, 112, 116, 104]), ("ScarArmyModel", 145, [111, 110]), ("ScarArmyModel", 147, [98, 121]), ("ScarArmyModel", 174, [116, 111, 108, 100]), ("ScarArmyModel", 179, [100, 101, 97, 100]), ("ScarArmyModel", 184, [116, 111, 100, 97, 121]), ("ScarArmyModel", 238, [118, 111, 105, 100]), ("ScarArmyModel", 240, [119, 111, 114, 116, 104]), ("ScarArmyModel", 242, [108, 101, 115, 115]), ("ScarArmyModel", 244, [105, 102]), ("ScarArmyModel", 220, [110, 111, 116]), ("ScarArmyModel", 208, [111, 119, 110]), ("ScarArmyModel", 210, [102, 105, 116, 115]), ("ScarArmyModel", 212, [101, 97, 114]), ("ScarArmyModel", 193, [112, 108, 97, 99, 101]), ("ScarArmyModel", 195, [119, 101, 97, 112, 111, 110]), ("ScarArmyModel", 197, [100, 97, 121, 115]), ("ScarArmyModel", 199, [98, 101, 97, 114, 101, 114]), ("ScarArmyModel", 231, [97, 110, 100]), ("ScarArmyModel", 236, [111, 114])]
def EC (E : PE) : Prop := ∀ q ∈ strs, ∃ v, E.sb (E.sa q.1 q.2.1) = some (v, q.2.2.map nI)
abbrev w_battle_ : List Nat := [98, 97, 116, 116, 108, 101]
abbrev w_day_ : List Nat := [100, 97, 121]
abbrev w_with_ : List Nat := [119, 105, 116, 104]
abbrev w_man_ : List Nat := [109, 97, 110]
abbrev w_scar_ : List Nat := [115, 99, 97, 114]
abbrev w_of_ : List Nat := [111, 102]
abbrev w_in_ : List Nat := [105, 110]
abbrev w_depth_ : List Nat := [100, 101, 112, 116, 104]
abbrev w_on_ : List Nat := [111, 110]
abbrev w_by_ : List Nat := [98, 121]
abbrev w_told_ : List Nat := [116, 111, 108, 100]
abbrev w_today_ : List Nat := [116, 111, 100, 97, 121]
abbrev w_dead_ : List Nat := [100, 101, 97, 100]
abbrev w_semi_ : List Nat := [59]
abbrev w_worth_ : List Nat := [119, 111, 114, 116, 104]
abbrev w_less_ : List Nat := [108, 101, 115, 115]
abbrev w_void_ : List Nat := [118, 111, 105, 100]
abbrev w_if_ : List Nat := [105, 102]
abbrev w_not_ : List Nat := [110, 111, 116]
abbrev w_lpar_ : List Nat := [40]
abbrev w_rpar_ : List Nat := [41]
abbrev w_own_ : List Nat := [111, 119, 110]
abbrev w_fits_ : List Nat := [102, 105, 116, 115]
abbrev w_ear_ : List Nat := [101, 97, 114]
abbrev w_place_ : List Nat := [112, 108, 97, 99, 101]
abbrev w_weapon_ : List Nat := [119, 101, 97, 112, 111, 110]
abbrev w_days_ : List Nat := [100, 97, 121, 115]
abbrev w_bearer_ : List Nat := [98, 101, 97, 114, 101, 114]
abbrev w_plus_ : List Nat := [43]
abbrev w_lt_ : List Nat := [60]
abbrev w_gt_ : List Nat := [62]
abbrev w_and_ : List Nat := [97, 110, 100]
abbrev w_or_ : List Nat := [111, 114]
theorem es_X1_38 (h : EC E) : ES E (E.sa "ScarArmy$ArmyText" 38) w_battle_ := ⟨h ("ScarArmy$ArmyText", 38, w_battle_) (List.mem_of_getElem? (i := 0) rfl), by decide, by decide⟩
theorem es_X1_106 (h : EC E) : ES E (E.sa "ScarArmy$ArmyText" 106) w_day_ := ⟨h ("ScarArmy$ArmyText", 106, w_day_) (List.mem_of_getElem? (i := 1) rfl), by decide, by decide⟩
theorem es_X1_108 (h : EC E) : ES E (E.sa "ScarArmy$ArmyText" 108) w_with_ := ⟨h ("ScarArmy$ArmyText", 108, w_with_) (List.mem_of_getElem? (i := 2) rfl), by decide, by decide⟩
theorem es_X1_53 (h : EC E) : ES E (E.sa "ScarArmy$ArmyText" 53) w_man_ := ⟨h ("ScarArmy$ArmyText", 53, w_man_) (List.mem_of_getElem? (i := 3) rfl), by decide, by decide⟩
theorem es_X1_63 (h : EC E) : ES E (E.sa "ScarArmy$ArmyText" 63) w_scar_ := ⟨h ("ScarArmy$ArmyText", 63, w_scar_) (List.mem_of_getElem? (i := 4) rfl), by decide, by decide⟩
theorem es_X1_123 (h : EC E) : ES E (E.sa "ScarArmy$ArmyText" 123) w_of_ := ⟨h ("ScarArmy$ArmyText", 123, w_of_) (List.mem_of_getElem? (i := 5) rfl), by decide, by decide⟩
theorem es_X1_125 (h : EC E) : ES E (E.sa "ScarArmy$ArmyText" 125) w_in_ := ⟨h ("ScarArmy$ArmyText", 125, w_in_) (List.mem_of_getElem? (i := 6) rfl), by decide, by decide⟩
theorem es_X1_127 (h : EC E) : ES E (E.sa "ScarArmy$ArmyText" 127) w_depth_ := ⟨h ("ScarArmy$ArmyText", 127, w_depth_) (List.mem_of_getElem? (i := 7) rfl), by decide, by decide⟩
theorem es_X1_129 (h : EC E) : ES E (E.sa "ScarArmy$ArmyText" 129) w_on_ := ⟨h ("ScarArmy$ArmyText", 129, w_on_) (List.mem_of_getElem? (i := 8) rfl), by decide, by decide⟩
theorem es_X1_134 (h : EC E) : ES E (E.sa "ScarArmy$ArmyText" 134) w_by_ := ⟨h ("ScarArmy$ArmyText", 134, w_by_) (List.mem_of_getElem? (i := 9) rfl), by decide, by decide⟩
theorem es_X1_68 (h : EC E) : ES E (E.sa "ScarArmy$ArmyText" 68) w_told_ := ⟨h ("ScarArmy$ArmyText", 68, w_told_) (List.mem_of_getElem? (i := 10) rfl), by decide, by decide⟩
theorem es_X1_78 (h : EC E) : ES E (E.sa "ScarArmy$ArmyText" 78) w_today_ := ⟨h ("ScarArmy$ArmyText", 78, w_today_) (List.mem_of_getElem? (i := 11) rfl), by decide, by decide⟩
theorem es_X1_89 (h : EC E) : ES E (E.sa "ScarArmy$ArmyText" 89) w_dead_ := ⟨h ("ScarArmy$ArmyText", 89, w_dead_) (List.mem_of_getElem? (i := 12) rfl), by decide, by decide⟩
theorem es_X1_32 (h : EC E) : ES E (E.sa "ScarArmy$ArmyText" 32) w_semi_ := ⟨h ("ScarArmy$ArmyText", 32, w_semi_) (List.mem_of_getElem? (i := 13) rfl), by decide, by decide⟩
theorem es_X4_58 (h : EC E) : ES E (E.sa "ScarArmy$LawText" 58) w_worth_ := ⟨h ("ScarArmy$LawText", 58, w_worth_) (List.mem_of_getElem? (i := 14) rfl), by decide, by decide⟩
theorem es_X4_63 (h : EC E) : ES E (E.sa "ScarArmy$LawText" 63) w_less_ := ⟨h ("ScarArmy$LawText", 63, w_less_) (List.mem_of_getElem? (i := 15) rfl), by decide, by decide⟩
theorem es_X4_65 (h : EC E) : ES E (E.sa "ScarArmy$LawText" 65) w_void_ := ⟨h ("ScarArmy$LawText", 65, w_void_) (List.mem_of_getElem? (i := 16) rfl), by decide, by decide⟩
theorem es_X4_81 (h : EC E) : ES E (E.sa "ScarArmy$LawText" 81) w_if_ := ⟨h ("ScarArmy$LawText", 81, w_if_) (List.mem_of_getElem? (i := 17) rfl), by decide, by decide⟩
theorem es_X4_94 (h : EC E) : ES E (E.sa "ScarArmy$LawText" 94) w_not_ := ⟨h ("ScarArmy$LawText", 94, w_not_) (List.mem_of_getElem? (i := 18) rfl), by decide, by decide⟩
theorem es_X4_96 (h : EC E) : ES E (E.sa "ScarArmy$LawText" 96) w_lpar_ := ⟨h ("ScarArmy$LawText", 96, w_lpar_) (List.mem_of_getElem? (i := 19) rfl), by decide, by decide⟩
theorem es_X4_101 (h : EC E) : ES E (E.sa "ScarArmy$LawText" 101) w_rpar_ := ⟨h ("ScarArmy$LawText", 101, w_rpar_) (List.mem_of_getElem? (i := 20) rfl), by decide, by decide⟩
theorem es_X4_119 (h : EC E) : ES E (E.sa "ScarArmy$LawText" 119) w_own_ := ⟨h ("ScarArmy$LawText", 119, w_own_) (List.mem_of_getElem? (i := 21) rfl), by decide, by decide⟩
theorem es_X4_121 (h : EC E) : ES E (E.sa "ScarArmy$LawText" 121) w_fits_ := ⟨h ("ScarArmy$LawText", 121, w_fits_) (List.mem_of_getElem? (i := 22) rfl), by decide, by decide⟩
theorem es_X4_123 (h : EC E) : ES E (E.sa "ScarArmy$LawText" 123) w_ear_ := ⟨h ("ScarArmy$LawText", 123, w_ear_) (List.mem_of_getElem? (i := 23) rfl), by decide, by decide⟩
theorem es_X4_125 (h : EC E) : ES E (E.sa "ScarArmy$LawText" 125) w_place_ := ⟨h ("ScarArmy$LawText", 125, w_place_) (List.mem_of_getElem? (i := 24) rfl), by decide, by decide⟩
theorem es_X4_127 (h : EC E) : ES E (E.sa "ScarArmy$LawText" 127) w_weapon_ := ⟨h ("ScarArmy$LawText", 127, w_weapon_) (List.mem_of_getElem? (i := 25) rfl), by decide, by decide⟩
theorem es_X4_129 (h : EC E) : ES E (E.sa "ScarArmy$LawText" 129) w_battle_ := ⟨h ("ScarArmy$LawText", 129, w_battle_) (List.mem_of_getElem? (i := 26) rfl), by decide, by decide⟩
theorem es_X4_131 (h : EC E) : ES E (E.sa "ScarArmy$LawText" 131) w_depth_ := ⟨h ("ScarArmy$LawText", 131, w_depth_) (List.mem_of_getElem? (i := 27) rfl), by decide, by decide⟩
theorem es_X4_133 (h : EC E) : ES E (E.sa "ScarArmy$LawText" 133) w_told_ := ⟨h ("ScarArmy$LawText", 133, w_told_) (List.mem_of_getElem? (i := 28) rfl), by decide, by decide⟩
theorem es_X4_135 (h : EC E) : ES E (E.sa "ScarArmy$LawText" 135) w_days_ := ⟨h ("ScarArmy$LawText", 135, w_days_) (List.mem_of_getElem? (i := 29) rfl), by decide, by decide⟩
theorem es_X4_137 (h : EC E) : ES E (E.sa "ScarArmy$LawText" 137) w_bearer_ := ⟨h ("ScarArmy$LawText", 137, w_bearer_) (List.mem_of_getElem? (i := 30) rfl), by decide, by decide⟩
theorem es_X4_117 (h : EC E) : ES E (E.sa "ScarArmy$LawText" 117) w_plus_ := ⟨h ("ScarArmy$LawText", 117, w_plus_) (List.mem_of_getElem? (i := 31) rfl), by decide, by decide⟩
theorem es_X4_110 (h : EC E) : ES E (E.sa "ScarArmy$LawText" 110) w_lt_ := ⟨h ("ScarArmy$LawText", 110, w_lt_) (List.mem_of_getElem? (i := 32) rfl), by decide, by decide⟩
theorem es_X4_112 (h : EC E) : ES E (E.sa "ScarArmy$LawText" 112) w_gt_ := ⟨h ("ScarArmy$LawText", 112, w_gt_) (List.mem_of_getElem? (i := 33) rfl), by decide, by decide⟩
theorem es_X4_90 (h : EC E) : ES E (E.sa "ScarArmy$LawText" 90) w_and_ := ⟨h ("ScarArmy$LawText", 90, w_and_) (List.mem_of_getElem? (i := 34) rfl), by decide, by decide⟩
theorem es_X4_92 (h : EC E) : ES E (E.sa "ScarArmy$LawText" 92) w_or_ := ⟨h ("ScarArmy$LawText", 92, w_or_) (List.mem_of_getElem? (i := 35) rfl), by decide, by decide⟩
theorem es_X4_43 (h : EC E) : ES E (E.sa "ScarArmy$LawText" 43) w_semi_ := ⟨h ("ScarArmy$LawText", 43, w_semi_) (List.mem_of_getElem? (i := 36) rfl), by decide, by decide⟩
theorem es_X12_159 (h : EC E) : ES E (E.sa "ScarArmyModel" 159) w_battle_ := ⟨h ("ScarArmyModel", 159, w_battle_) (List.mem_of_getElem? (i := 37) rfl), by decide, by decide⟩
theorem es_X12_128 (h : EC E) : ES E (E.sa "ScarArmyModel" 128) w_day_ := ⟨h ("ScarArmyModel", 128, w_day_) (List.mem_of_getElem? (i := 38) rfl), by decide, by decide⟩
theorem es_X12_134 (h : EC E) : ES E (E.sa "ScarArmyModel" 134) w_with_ := ⟨h ("ScarArmyModel", 134, w_with_) (List.mem_of_getElem? (i := 39) rfl), by decide, by decide⟩
theorem es_X12_164 (h : EC E) : ES E (E.sa "ScarArmyModel" 164) w_man_ := ⟨h ("ScarArmyModel", 164, w_man_) (List.mem_of_getElem? (i := 40) rfl), by decide, by decide⟩
theorem es_X12_169 (h : EC E) : ES E (E.sa "ScarArmyModel" 169) w_scar_ := ⟨h ("ScarArmyModel", 169, w_scar_) (List.mem_of_getElem? (i := 41) rfl), by decide, by decide⟩
theorem es_X12_140 (h : EC E) : ES E (E.sa "ScarArmyModel" 140) w_of_ := ⟨h ("ScarArmyModel", 140, w_of_) (List.mem_of_getElem? (i := 42) rfl), by decide, by decide⟩
theorem es_X12_142 (h : EC E) : ES E (E.sa "ScarArmyModel" 142) w_in_ := ⟨h ("ScarArmyModel", 142, w_in_) (List.mem_of_getElem? (i := 43) rfl), by decide, by decide⟩
theorem es_X12_143 (h : EC E) : ES E (E.sa "ScarArmyModel" 143) w_depth_ := ⟨h ("ScarArmyModel", 143, w_depth_) (List.mem_of_getElem? (i := 44) rfl), by decide, by decide⟩
theorem es_X12_145 (h : EC E) : ES E (E.sa "ScarArmyModel" 145) w_on_ := ⟨h ("ScarArmyModel", 145, w_on_) (List.mem_of_getElem? (i := 45) rfl), by decide, by decide⟩
theorem es_X12_147 (h : EC E) : ES E (E.sa "ScarArmyModel" 147) w_by_ := ⟨h ("ScarArmyModel", 147, w_by_) (List.mem_of_getElem? (i := 46) rfl), by decide, by decide⟩
theorem es_X12_174 (h : EC E) : ES E (E.sa "ScarArmyModel" 174) w_told_ := ⟨h ("ScarArmyModel", 174, w_told_) (List.mem_of_getElem? (i := 47) rfl), by decide, by decide⟩
theorem es_X12_179 (h : EC E) : ES E (E.sa "ScarArmyModel" 179) w_dead_ := ⟨h ("ScarArmyModel", 179, w_dead_) (List.mem_of_getElem? (i := 48) rfl), by decide, by decide⟩
theorem es_X12_184 (h : EC E) : ES E (E.sa "ScarArmyModel" 184) w_today_ := ⟨h ("ScarArmyModel", 184, w_today_) (List.mem_of_getElem? (i := 49) rfl), by decide, by decide⟩
theorem es_X12_238 (h : EC E) : ES E (E.sa "ScarArmyModel" 238) w_void_ := ⟨h ("ScarArmyModel", 238, w_void_) (List.mem_of_getElem? (i := 50) rfl), by decide, by decide⟩
theorem es_X12_240 (h : EC E) : ES E (E.sa "ScarArmyModel" 240) w_worth_ := ⟨h ("ScarArmyModel", 240, w_worth_) (List.mem_of_getElem? (i := 51) rfl), by decide, by decide⟩
theorem es_X12_242 (h : EC E) : ES E (E.sa "ScarArmyModel" 242) w_less_ := ⟨h ("ScarArmyModel", 242, w_less_) (List.mem_of_getElem? (i := 52) rfl), by decide, by decide⟩
theorem es_X12_244 (h : EC E) : ES E (E.sa "ScarArmyModel" 244) w_if_ := ⟨h ("ScarArmyModel", 244, w_if_) (List.mem_of_getElem? (i := 53) rfl), by decide, by decide⟩
theorem es_X12_220 (h : EC E) : ES E (E.sa "ScarArmyModel" 220) w_not_ := ⟨h ("ScarArmyModel", 220, w_not_) (List.mem_of_getElem? (i := 54) rfl), by decide, by decide⟩
theorem es_X12_208 (h : EC E) : ES E (E.sa "ScarArmyModel" 208) w_own_ := ⟨h ("ScarArmyModel", 208, w_own_) (List.mem_of_getElem? (i := 55) rfl), by decide, by decide⟩
theorem es_X12_210 (h : EC E) : ES E (E.sa "ScarArmyModel" 210) w_fits_ := ⟨h ("ScarArmyModel", 210, w_fits_) (List.mem_of_getElem? (i := 56) rfl), by decide, by decide⟩
theorem es_X12_212 (h : EC E) : ES E (E.sa "ScarArmyModel" 212) w_ear_ := ⟨h ("ScarArmyModel", 212, w_ear_) (List.mem_of_getElem? (i := 57) rfl), by decide, by decide⟩
theorem es_X12_193 (h : EC E) : ES E (E.sa "ScarArmyModel" 193) w_place_ := ⟨h ("ScarArmyModel", 193, w_place_) (List.mem_of_getElem? (i := 58) rfl), by decide, by decide⟩
theorem es_X12_195 (h : EC E) : ES E (E.sa "ScarArmyModel" 195) w_weapon_ := ⟨h ("ScarArmyModel", 195, w_weapon_) (List.mem_of_getElem? (i := 59) rfl), by decide, by decide⟩
theorem es_X12_197 (h : EC E) : ES E (E.sa "ScarArmyModel" 197) w_days_ := ⟨h ("ScarArmyModel", 197, w_days_) (List.mem_of_getElem? (i := 60) rfl), by decide, by decide⟩
theorem es_X12_199 (h : EC E) : ES E (E.sa "ScarArmyModel" 199) w_bearer_ := ⟨h ("ScarArmyModel", 199, w_bearer_) (List.mem_of_getElem? (i := 61) rfl), by decide, by decide⟩
theorem es_X12_231 (h : EC E) : ES E (E.sa "ScarArmyModel" 231) w_and_ := ⟨h ("ScarArmyModel", 231, w_and_) (List.mem_of_getElem? (i := 62) rfl), by decide, by decide⟩
theorem es_X12_236 (h : EC E) : ES E (E.sa "ScarArmyModel" 236) w_or_ := ⟨h ("ScarArmyModel", 236, w_or_) (List.mem_of_getElem? (i := 63) rfl), by decide, by decide⟩
end STRS
