/-! words of the law's own methods -/
set_option maxRecDepth 100000 in
theorem w_124 : (Jvm.Cond.initialized "ScarArmyLaw") ∈ pT := List.mem_filter.mpr ⟨(tb_0 (List.mem_of_getElem? (i := 0) rfl)), by decide +kernel⟩
set_option maxRecDepth 100000 in
theorem w_154 : (Jvm.Cond.classLink "ScarArmyLaw" (8 : Nat) "ScarArmy") ∈ pT := List.mem_filter.mpr ⟨(tb_0 (List.mem_of_getElem? (i := 30) rfl)), by decide +kernel⟩
set_option maxRecDepth 100000 in
theorem w_155 : (Jvm.Cond.instantiable "ScarArmy" (10 : Nat)) ∈ pT := List.mem_filter.mpr ⟨(tb_0 (List.mem_of_getElem? (i := 31) rfl)), by decide +kernel⟩
set_option maxRecDepth 100000 in
theorem w_156 : (Jvm.Cond.methodLink "ScarArmyLaw" (111 : Nat) ({ cls := "ScarArmy", name := "<init>", desc := "()V" } : Jvm.MethodName)) ∈ pT := List.mem_filter.mpr ⟨(tb_0 (List.mem_of_getElem? (i := 32) rfl)), by decide +kernel⟩
set_option maxRecDepth 100000 in
theorem w_157 : (Jvm.Cond.instanceMethod ({ cls := "ScarArmy", name := "<init>", desc := "()V" } : Jvm.MethodName)) ∈ pT := List.mem_filter.mpr ⟨(tb_0 (List.mem_of_getElem? (i := 33) rfl)), by decide +kernel⟩
set_option maxRecDepth 100000 in
theorem w_493 : (Jvm.Cond.methodLink "ScarArmyLaw" (115 : Nat) ({ cls := "ScarArmy", name := "feed", desc := "(IIIII)I" } : Jvm.MethodName)) ∈ pT := List.mem_filter.mpr ⟨(tb_1 (List.mem_of_getElem? (i := 129) rfl)), by decide +kernel⟩
set_option maxRecDepth 100000 in
theorem w_494 : (Jvm.Cond.instanceMethod ({ cls := "ScarArmy", name := "feed", desc := "(IIIII)I" } : Jvm.MethodName)) ∈ pT := List.mem_filter.mpr ⟨(tb_1 (List.mem_of_getElem? (i := 130) rfl)), by decide +kernel⟩
set_option maxRecDepth 100000 in
theorem w_495 : (Jvm.Cond.selects "ScarArmy" ({ cls := "ScarArmy", name := "feed", desc := "(IIIII)I" } : Jvm.MethodName) ({ cls := "ScarArmy", name := "feed", desc := "(IIIII)I" } : Jvm.MethodName)) ∈ pT := List.mem_filter.mpr ⟨(tb_1 (List.mem_of_getElem? (i := 131) rfl)), by decide +kernel⟩
set_option maxRecDepth 100000 in
theorem w_501 : (Jvm.Cond.methodLink "ScarArmyLaw" (119 : Nat) ({ cls := "ScarArmy", name := "end", desc := "(I)Z" } : Jvm.MethodName)) ∈ pT := List.mem_filter.mpr ⟨(tb_1 (List.mem_of_getElem? (i := 137) rfl)), by decide +kernel⟩
set_option maxRecDepth 100000 in
theorem w_502 : (Jvm.Cond.instanceMethod ({ cls := "ScarArmy", name := "end", desc := "(I)Z" } : Jvm.MethodName)) ∈ pT := List.mem_filter.mpr ⟨(tb_1 (List.mem_of_getElem? (i := 138) rfl)), by decide +kernel⟩
set_option maxRecDepth 100000 in
theorem w_503 : (Jvm.Cond.selects "ScarArmy" ({ cls := "ScarArmy", name := "end", desc := "(I)Z" } : Jvm.MethodName) ({ cls := "ScarArmy", name := "end", desc := "(I)Z" } : Jvm.MethodName)) ∈ pT := List.mem_filter.mpr ⟨(tb_1 (List.mem_of_getElem? (i := 139) rfl)), by decide +kernel⟩
set_option maxRecDepth 100000 in
theorem w_505 : (Jvm.Cond.methodLink "ScarArmyLaw" (136 : Nat) ({ cls := "ScarArmy", name := "fault", desc := "()I" } : Jvm.MethodName)) ∈ pT := List.mem_filter.mpr ⟨(tb_1 (List.mem_of_getElem? (i := 141) rfl)), by decide +kernel⟩
set_option maxRecDepth 100000 in
theorem w_506 : (Jvm.Cond.instanceMethod ({ cls := "ScarArmy", name := "fault", desc := "()I" } : Jvm.MethodName)) ∈ pT := List.mem_filter.mpr ⟨(tb_1 (List.mem_of_getElem? (i := 142) rfl)), by decide +kernel⟩
set_option maxRecDepth 100000 in
theorem w_507 : (Jvm.Cond.selects "ScarArmy" ({ cls := "ScarArmy", name := "fault", desc := "()I" } : Jvm.MethodName) ({ cls := "ScarArmy", name := "fault", desc := "()I" } : Jvm.MethodName)) ∈ pT := List.mem_filter.mpr ⟨(tb_1 (List.mem_of_getElem? (i := 143) rfl)), by decide +kernel⟩
set_option maxRecDepth 100000 in
theorem w_509 : (Jvm.Cond.methodLink "ScarArmyLaw" (177 : Nat) ({ cls := "ScarArmy", name := "swaps", desc := "()I" } : Jvm.MethodName)) ∈ pT := List.mem_filter.mpr ⟨(tb_1 (List.mem_of_getElem? (i := 145) rfl)), by decide +kernel⟩
set_option maxRecDepth 100000 in
theorem w_510 : (Jvm.Cond.instanceMethod ({ cls := "ScarArmy", name := "swaps", desc := "()I" } : Jvm.MethodName)) ∈ pT := List.mem_filter.mpr ⟨(tb_1 (List.mem_of_getElem? (i := 146) rfl)), by decide +kernel⟩
set_option maxRecDepth 100000 in
theorem w_511 : (Jvm.Cond.selects "ScarArmy" ({ cls := "ScarArmy", name := "swaps", desc := "()I" } : Jvm.MethodName) ({ cls := "ScarArmy", name := "swaps", desc := "()I" } : Jvm.MethodName)) ∈ pT := List.mem_filter.mpr ⟨(tb_1 (List.mem_of_getElem? (i := 147) rfl)), by decide +kernel⟩
set_option maxRecDepth 100000 in
theorem w_521 : (Jvm.Cond.methodLink "ScarArmyLaw" (181 : Nat) ({ cls := "ScarArmy", name := "his", desc := "(I)Z" } : Jvm.MethodName)) ∈ pT := List.mem_filter.mpr ⟨(tb_1 (List.mem_of_getElem? (i := 157) rfl)), by decide +kernel⟩
set_option maxRecDepth 100000 in
theorem w_522 : (Jvm.Cond.instanceMethod ({ cls := "ScarArmy", name := "his", desc := "(I)Z" } : Jvm.MethodName)) ∈ pT := List.mem_filter.mpr ⟨(tb_1 (List.mem_of_getElem? (i := 158) rfl)), by decide +kernel⟩
set_option maxRecDepth 100000 in
theorem w_523 : (Jvm.Cond.selects "ScarArmy" ({ cls := "ScarArmy", name := "his", desc := "(I)Z" } : Jvm.MethodName) ({ cls := "ScarArmy", name := "his", desc := "(I)Z" } : Jvm.MethodName)) ∈ pT := List.mem_filter.mpr ⟨(tb_1 (List.mem_of_getElem? (i := 159) rfl)), by decide +kernel⟩
set_option maxRecDepth 100000 in
theorem w_580 : (Jvm.Cond.methodLink "ScarArmyLaw" (192 : Nat) ({ cls := "ScarArmy", name := "fewest", desc := "()I" } : Jvm.MethodName)) ∈ pT := List.mem_filter.mpr ⟨(tb_1 (List.mem_of_getElem? (i := 216) rfl)), by decide +kernel⟩
set_option maxRecDepth 100000 in
theorem w_581 : (Jvm.Cond.instanceMethod ({ cls := "ScarArmy", name := "fewest", desc := "()I" } : Jvm.MethodName)) ∈ pT := List.mem_filter.mpr ⟨(tb_1 (List.mem_of_getElem? (i := 217) rfl)), by decide +kernel⟩
set_option maxRecDepth 100000 in
theorem w_582 : (Jvm.Cond.selects "ScarArmy" ({ cls := "ScarArmy", name := "fewest", desc := "()I" } : Jvm.MethodName) ({ cls := "ScarArmy", name := "fewest", desc := "()I" } : Jvm.MethodName)) ∈ pT := List.mem_filter.mpr ⟨(tb_1 (List.mem_of_getElem? (i := 218) rfl)), by decide +kernel⟩
set_option maxRecDepth 100000 in
theorem w_610 : (Jvm.Cond.methodLink "ScarArmyLaw" (209 : Nat) ({ cls := "ScarArmy", name := "sergeant", desc := "()I" } : Jvm.MethodName)) ∈ pT := List.mem_filter.mpr ⟨(tb_2 (List.mem_of_getElem? (i := 6) rfl)), by decide +kernel⟩
set_option maxRecDepth 100000 in
theorem w_611 : (Jvm.Cond.instanceMethod ({ cls := "ScarArmy", name := "sergeant", desc := "()I" } : Jvm.MethodName)) ∈ pT := List.mem_filter.mpr ⟨(tb_2 (List.mem_of_getElem? (i := 7) rfl)), by decide +kernel⟩
set_option maxRecDepth 100000 in
theorem w_612 : (Jvm.Cond.selects "ScarArmy" ({ cls := "ScarArmy", name := "sergeant", desc := "()I" } : Jvm.MethodName) ({ cls := "ScarArmy", name := "sergeant", desc := "()I" } : Jvm.MethodName)) ∈ pT := List.mem_filter.mpr ⟨(tb_2 (List.mem_of_getElem? (i := 8) rfl)), by decide +kernel⟩
set_option maxRecDepth 100000 in
theorem w_628 : (Jvm.Cond.methodLink "ScarArmyLaw" (220 : Nat) ({ cls := "ScarArmy", name := "bargain", desc := "(Z)I" } : Jvm.MethodName)) ∈ pT := List.mem_filter.mpr ⟨(tb_2 (List.mem_of_getElem? (i := 24) rfl)), by decide +kernel⟩
set_option maxRecDepth 100000 in
theorem w_629 : (Jvm.Cond.instanceMethod ({ cls := "ScarArmy", name := "bargain", desc := "(Z)I" } : Jvm.MethodName)) ∈ pT := List.mem_filter.mpr ⟨(tb_2 (List.mem_of_getElem? (i := 25) rfl)), by decide +kernel⟩
set_option maxRecDepth 100000 in
theorem w_630 : (Jvm.Cond.selects "ScarArmy" ({ cls := "ScarArmy", name := "bargain", desc := "(Z)I" } : Jvm.MethodName) ({ cls := "ScarArmy", name := "bargain", desc := "(Z)I" } : Jvm.MethodName)) ∈ pT := List.mem_filter.mpr ⟨(tb_2 (List.mem_of_getElem? (i := 26) rfl)), by decide +kernel⟩
set_option maxRecDepth 100000 in
theorem w_666 : (Jvm.Cond.methodLink "ScarArmyLaw" (228 : Nat) ({ cls := "ScarArmy", name := "mourned", desc := "()I" } : Jvm.MethodName)) ∈ pT := List.mem_filter.mpr ⟨(tb_2 (List.mem_of_getElem? (i := 62) rfl)), by decide +kernel⟩
set_option maxRecDepth 100000 in
theorem w_667 : (Jvm.Cond.instanceMethod ({ cls := "ScarArmy", name := "mourned", desc := "()I" } : Jvm.MethodName)) ∈ pT := List.mem_filter.mpr ⟨(tb_2 (List.mem_of_getElem? (i := 63) rfl)), by decide +kernel⟩
set_option maxRecDepth 100000 in
theorem w_668 : (Jvm.Cond.selects "ScarArmy" ({ cls := "ScarArmy", name := "mourned", desc := "()I" } : Jvm.MethodName) ({ cls := "ScarArmy", name := "mourned", desc := "()I" } : Jvm.MethodName)) ∈ pT := List.mem_filter.mpr ⟨(tb_2 (List.mem_of_getElem? (i := 64) rfl)), by decide +kernel⟩
set_option maxRecDepth 100000 in
theorem w_675 : (Jvm.Cond.methodLink "ScarArmyLaw" (238 : Nat) ({ cls := "ScarArmy", name := "route", desc := "(I)Z" } : Jvm.MethodName)) ∈ pT := List.mem_filter.mpr ⟨(tb_2 (List.mem_of_getElem? (i := 71) rfl)), by decide +kernel⟩
set_option maxRecDepth 100000 in
theorem w_676 : (Jvm.Cond.instanceMethod ({ cls := "ScarArmy", name := "route", desc := "(I)Z" } : Jvm.MethodName)) ∈ pT := List.mem_filter.mpr ⟨(tb_2 (List.mem_of_getElem? (i := 72) rfl)), by decide +kernel⟩
set_option maxRecDepth 100000 in
theorem w_677 : (Jvm.Cond.selects "ScarArmy" ({ cls := "ScarArmy", name := "route", desc := "(I)Z" } : Jvm.MethodName) ({ cls := "ScarArmy", name := "route", desc := "(I)Z" } : Jvm.MethodName)) ∈ pT := List.mem_filter.mpr ⟨(tb_2 (List.mem_of_getElem? (i := 73) rfl)), by decide +kernel⟩
set_option maxRecDepth 100000 in
theorem w_688 : (Jvm.Cond.methodLink "ScarArmyLaw" (242 : Nat) ({ cls := "ScarArmy", name := "campaign", desc := "(Z)I" } : Jvm.MethodName)) ∈ pT := List.mem_filter.mpr ⟨(tb_2 (List.mem_of_getElem? (i := 84) rfl)), by decide +kernel⟩
set_option maxRecDepth 100000 in
theorem w_689 : (Jvm.Cond.instanceMethod ({ cls := "ScarArmy", name := "campaign", desc := "(Z)I" } : Jvm.MethodName)) ∈ pT := List.mem_filter.mpr ⟨(tb_2 (List.mem_of_getElem? (i := 85) rfl)), by decide +kernel⟩
set_option maxRecDepth 100000 in
theorem w_690 : (Jvm.Cond.selects "ScarArmy" ({ cls := "ScarArmy", name := "campaign", desc := "(Z)I" } : Jvm.MethodName) ({ cls := "ScarArmy", name := "campaign", desc := "(Z)I" } : Jvm.MethodName)) ∈ pT := List.mem_filter.mpr ⟨(tb_2 (List.mem_of_getElem? (i := 86) rfl)), by decide +kernel⟩
set_option maxRecDepth 100000 in
theorem w_700 : (Jvm.Cond.methodLink "ScarArmyLaw" (246 : Nat) ({ cls := "ScarArmy", name := "voids", desc := "()I" } : Jvm.MethodName)) ∈ pT := List.mem_filter.mpr ⟨(tb_2 (List.mem_of_getElem? (i := 96) rfl)), by decide +kernel⟩
set_option maxRecDepth 100000 in
theorem w_701 : (Jvm.Cond.instanceMethod ({ cls := "ScarArmy", name := "voids", desc := "()I" } : Jvm.MethodName)) ∈ pT := List.mem_filter.mpr ⟨(tb_2 (List.mem_of_getElem? (i := 97) rfl)), by decide +kernel⟩
set_option maxRecDepth 100000 in
theorem w_702 : (Jvm.Cond.selects "ScarArmy" ({ cls := "ScarArmy", name := "voids", desc := "()I" } : Jvm.MethodName) ({ cls := "ScarArmy", name := "voids", desc := "()I" } : Jvm.MethodName)) ∈ pT := List.mem_filter.mpr ⟨(tb_2 (List.mem_of_getElem? (i := 98) rfl)), by decide +kernel⟩
set_option maxRecDepth 100000 in
theorem w_709 : (Jvm.Cond.methodLink "ScarArmyLaw" (250 : Nat) ({ cls := "ScarArmy", name := "lies", desc := "()I" } : Jvm.MethodName)) ∈ pT := List.mem_filter.mpr ⟨(tb_2 (List.mem_of_getElem? (i := 105) rfl)), by decide +kernel⟩
set_option maxRecDepth 100000 in
theorem w_710 : (Jvm.Cond.instanceMethod ({ cls := "ScarArmy", name := "lies", desc := "()I" } : Jvm.MethodName)) ∈ pT := List.mem_filter.mpr ⟨(tb_2 (List.mem_of_getElem? (i := 106) rfl)), by decide +kernel⟩
set_option maxRecDepth 100000 in
theorem w_711 : (Jvm.Cond.selects "ScarArmy" ({ cls := "ScarArmy", name := "lies", desc := "()I" } : Jvm.MethodName) ({ cls := "ScarArmy", name := "lies", desc := "()I" } : Jvm.MethodName)) ∈ pT := List.mem_filter.mpr ⟨(tb_2 (List.mem_of_getElem? (i := 107) rfl)), by decide +kernel⟩
set_option maxRecDepth 100000 in
theorem w_717 : (Jvm.Cond.methodLink "ScarArmyLaw" (254 : Nat) ({ cls := "ScarArmy", name := "crosswise", desc := "()I" } : Jvm.MethodName)) ∈ pT := List.mem_filter.mpr ⟨(tb_2 (List.mem_of_getElem? (i := 113) rfl)), by decide +kernel⟩
set_option maxRecDepth 100000 in
theorem w_718 : (Jvm.Cond.instanceMethod ({ cls := "ScarArmy", name := "crosswise", desc := "()I" } : Jvm.MethodName)) ∈ pT := List.mem_filter.mpr ⟨(tb_2 (List.mem_of_getElem? (i := 114) rfl)), by decide +kernel⟩
set_option maxRecDepth 100000 in
theorem w_719 : (Jvm.Cond.selects "ScarArmy" ({ cls := "ScarArmy", name := "crosswise", desc := "()I" } : Jvm.MethodName) ({ cls := "ScarArmy", name := "crosswise", desc := "()I" } : Jvm.MethodName)) ∈ pT := List.mem_filter.mpr ⟨(tb_2 (List.mem_of_getElem? (i := 115) rfl)), by decide +kernel⟩
set_option maxRecDepth 100000 in
theorem w_725 : (Jvm.Cond.methodLink "ScarArmyLaw" (270 : Nat) ({ cls := "ScarArmy", name := "seed", desc := "(I)I" } : Jvm.MethodName)) ∈ pT := List.mem_filter.mpr ⟨(tb_2 (List.mem_of_getElem? (i := 121) rfl)), by decide +kernel⟩
set_option maxRecDepth 100000 in
theorem w_726 : (Jvm.Cond.instanceMethod ({ cls := "ScarArmy", name := "seed", desc := "(I)I" } : Jvm.MethodName)) ∈ pT := List.mem_filter.mpr ⟨(tb_2 (List.mem_of_getElem? (i := 122) rfl)), by decide +kernel⟩
set_option maxRecDepth 100000 in
theorem w_727 : (Jvm.Cond.selects "ScarArmy" ({ cls := "ScarArmy", name := "seed", desc := "(I)I" } : Jvm.MethodName) ({ cls := "ScarArmy", name := "seed", desc := "(I)I" } : Jvm.MethodName)) ∈ pT := List.mem_filter.mpr ⟨(tb_2 (List.mem_of_getElem? (i := 123) rfl)), by decide +kernel⟩
set_option maxRecDepth 100000 in
theorem w_729 : (Jvm.Cond.methodLink "ScarArmyLaw" (274 : Nat) ({ cls := "ScarArmy", name := "undo", desc := "()Z" } : Jvm.MethodName)) ∈ pT := List.mem_filter.mpr ⟨(tb_2 (List.mem_of_getElem? (i := 125) rfl)), by decide +kernel⟩
set_option maxRecDepth 100000 in
theorem w_730 : (Jvm.Cond.instanceMethod ({ cls := "ScarArmy", name := "undo", desc := "()Z" } : Jvm.MethodName)) ∈ pT := List.mem_filter.mpr ⟨(tb_2 (List.mem_of_getElem? (i := 126) rfl)), by decide +kernel⟩
set_option maxRecDepth 100000 in
theorem w_731 : (Jvm.Cond.selects "ScarArmy" ({ cls := "ScarArmy", name := "undo", desc := "()Z" } : Jvm.MethodName) ({ cls := "ScarArmy", name := "undo", desc := "()Z" } : Jvm.MethodName)) ∈ pT := List.mem_filter.mpr ⟨(tb_2 (List.mem_of_getElem? (i := 127) rfl)), by decide +kernel⟩
set_option maxRecDepth 100000 in
theorem w_763 : (Jvm.Cond.methodLink "ScarArmyLaw" (279 : Nat) ({ cls := "ScarArmy", name := "image", desc := "()V" } : Jvm.MethodName)) ∈ pT := List.mem_filter.mpr ⟨(tb_2 (List.mem_of_getElem? (i := 159) rfl)), by decide +kernel⟩
set_option maxRecDepth 100000 in
theorem w_764 : (Jvm.Cond.instanceMethod ({ cls := "ScarArmy", name := "image", desc := "()V" } : Jvm.MethodName)) ∈ pT := List.mem_filter.mpr ⟨(tb_2 (List.mem_of_getElem? (i := 160) rfl)), by decide +kernel⟩
set_option maxRecDepth 100000 in
theorem w_765 : (Jvm.Cond.selects "ScarArmy" ({ cls := "ScarArmy", name := "image", desc := "()V" } : Jvm.MethodName) ({ cls := "ScarArmy", name := "image", desc := "()V" } : Jvm.MethodName)) ∈ pT := List.mem_filter.mpr ⟨(tb_2 (List.mem_of_getElem? (i := 161) rfl)), by decide +kernel⟩
set_option maxRecDepth 100000 in
theorem w_768 : (Jvm.Cond.methodLink "ScarArmyLaw" (283 : Nat) ({ cls := "ScarArmy", name := "back", desc := "()Z" } : Jvm.MethodName)) ∈ pT := List.mem_filter.mpr ⟨(tb_2 (List.mem_of_getElem? (i := 164) rfl)), by decide +kernel⟩
set_option maxRecDepth 100000 in
theorem w_769 : (Jvm.Cond.instanceMethod ({ cls := "ScarArmy", name := "back", desc := "()Z" } : Jvm.MethodName)) ∈ pT := List.mem_filter.mpr ⟨(tb_2 (List.mem_of_getElem? (i := 165) rfl)), by decide +kernel⟩
set_option maxRecDepth 100000 in
theorem w_770 : (Jvm.Cond.selects "ScarArmy" ({ cls := "ScarArmy", name := "back", desc := "()Z" } : Jvm.MethodName) ({ cls := "ScarArmy", name := "back", desc := "()Z" } : Jvm.MethodName)) ∈ pT := List.mem_filter.mpr ⟨(tb_2 (List.mem_of_getElem? (i := 166) rfl)), by decide +kernel⟩
set_option maxRecDepth 100000 in
theorem w_776 : (Jvm.Cond.methodLink "ScarArmyLaw" (287 : Nat) ({ cls := "ScarArmy", name := "count", desc := "(I)I" } : Jvm.MethodName)) ∈ pT := List.mem_filter.mpr ⟨(tb_2 (List.mem_of_getElem? (i := 172) rfl)), by decide +kernel⟩
set_option maxRecDepth 100000 in
theorem w_777 : (Jvm.Cond.instanceMethod ({ cls := "ScarArmy", name := "count", desc := "(I)I" } : Jvm.MethodName)) ∈ pT := List.mem_filter.mpr ⟨(tb_2 (List.mem_of_getElem? (i := 173) rfl)), by decide +kernel⟩
set_option maxRecDepth 100000 in
theorem w_778 : (Jvm.Cond.selects "ScarArmy" ({ cls := "ScarArmy", name := "count", desc := "(I)I" } : Jvm.MethodName) ({ cls := "ScarArmy", name := "count", desc := "(I)I" } : Jvm.MethodName)) ∈ pT := List.mem_filter.mpr ⟨(tb_2 (List.mem_of_getElem? (i := 174) rfl)), by decide +kernel⟩
set_option maxRecDepth 100000 in
theorem w_788 : (Jvm.Cond.methodLink "ScarArmyLaw" (124 : Nat) ({ cls := "ScarArmyLaw", name := "army", desc := "(LScarArmy;[J)I" } : Jvm.MethodName)) ∈ pT := List.mem_filter.mpr ⟨(tb_2 (List.mem_of_getElem? (i := 184) rfl)), by decide +kernel⟩
set_option maxRecDepth 100000 in
theorem w_789 : (Jvm.Cond.static ({ cls := "ScarArmyLaw", name := "army", desc := "(LScarArmy;[J)I" } : Jvm.MethodName)) ∈ pT := List.mem_filter.mpr ⟨(tb_2 (List.mem_of_getElem? (i := 185) rfl)), by decide +kernel⟩
set_option maxRecDepth 100000 in
theorem w_790 : (Jvm.Cond.codeWith ({ cls := "ScarArmyLaw", name := "army", desc := "(LScarArmy;[J)I" } : Jvm.MethodName) method_3_code (3 : Nat) (Option.some Jvm.ClassFile.FieldType.int) [((0 : Nat), (8 : Nat), (11 : Nat), (13 : Nat)), ((0 : Nat), (8 : Nat), (14 : Nat), (15 : Nat))]) ∈ pT := List.mem_filter.mpr ⟨(tb_2 (List.mem_of_getElem? (i := 186) rfl)), by decide +kernel⟩
set_option maxRecDepth 100000 in
theorem w_791 : (Jvm.Cond.classLink "ScarArmyLaw" (13 : Nat) "java/lang/IllegalArgumentException") ∈ pT := List.mem_filter.mpr ⟨(tb_2 (List.mem_of_getElem? (i := 187) rfl)), by decide +kernel⟩
set_option maxRecDepth 100000 in
theorem w_792 : (Jvm.Cond.classLink "ScarArmyLaw" (15 : Nat) "java/lang/UnsupportedOperationException") ∈ pT := List.mem_filter.mpr ⟨(tb_2 (List.mem_of_getElem? (i := 188) rfl)), by decide +kernel⟩
set_option maxRecDepth 100000 in
theorem w_793 : (Jvm.Cond.methodLink "ScarArmyLaw" (7 : Nat) ({ cls := "ScarArmy", name := "army", desc := "()I" } : Jvm.MethodName)) ∈ pT := List.mem_filter.mpr ⟨(tb_2 (List.mem_of_getElem? (i := 189) rfl)), by decide +kernel⟩
set_option maxRecDepth 100000 in
theorem w_794 : (Jvm.Cond.instanceMethod ({ cls := "ScarArmy", name := "army", desc := "()I" } : Jvm.MethodName)) ∈ pT := List.mem_filter.mpr ⟨(tb_2 (List.mem_of_getElem? (i := 190) rfl)), by decide +kernel⟩
set_option maxRecDepth 100000 in
theorem w_795 : (Jvm.Cond.selects "ScarArmy" ({ cls := "ScarArmy", name := "army", desc := "()I" } : Jvm.MethodName) ({ cls := "ScarArmy", name := "army", desc := "()I" } : Jvm.MethodName)) ∈ pT := List.mem_filter.mpr ⟨(tb_2 (List.mem_of_getElem? (i := 191) rfl)), by decide +kernel⟩
set_option maxRecDepth 100000 in
theorem w_1018 : (Jvm.Cond.methodLink "ScarArmyLaw" (133 : Nat) ({ cls := "ScarArmyLaw", name := "law", desc := "(LScarArmy;[J)I" } : Jvm.MethodName)) ∈ pT := List.mem_filter.mpr ⟨(tb_3 (List.mem_of_getElem? (i := 174) rfl)), by decide +kernel⟩
set_option maxRecDepth 100000 in
theorem w_1019 : (Jvm.Cond.static ({ cls := "ScarArmyLaw", name := "law", desc := "(LScarArmy;[J)I" } : Jvm.MethodName)) ∈ pT := List.mem_filter.mpr ⟨(tb_3 (List.mem_of_getElem? (i := 175) rfl)), by decide +kernel⟩
set_option maxRecDepth 100000 in
theorem w_1020 : (Jvm.Cond.codeWith ({ cls := "ScarArmyLaw", name := "law", desc := "(LScarArmy;[J)I" } : Jvm.MethodName) method_4_code (3 : Nat) (Option.some Jvm.ClassFile.FieldType.int) [((0 : Nat), (8 : Nat), (11 : Nat), (13 : Nat))]) ∈ pT := List.mem_filter.mpr ⟨(tb_3 (List.mem_of_getElem? (i := 176) rfl)), by decide +kernel⟩
set_option maxRecDepth 100000 in
theorem w_1021 : (Jvm.Cond.methodLink "ScarArmyLaw" (17 : Nat) ({ cls := "ScarArmy", name := "law", desc := "()I" } : Jvm.MethodName)) ∈ pT := List.mem_filter.mpr ⟨(tb_3 (List.mem_of_getElem? (i := 177) rfl)), by decide +kernel⟩
set_option maxRecDepth 100000 in
theorem w_1022 : (Jvm.Cond.instanceMethod ({ cls := "ScarArmy", name := "law", desc := "()I" } : Jvm.MethodName)) ∈ pT := List.mem_filter.mpr ⟨(tb_3 (List.mem_of_getElem? (i := 178) rfl)), by decide +kernel⟩
set_option maxRecDepth 100000 in
theorem w_1023 : (Jvm.Cond.selects "ScarArmy" ({ cls := "ScarArmy", name := "law", desc := "()I" } : Jvm.MethodName) ({ cls := "ScarArmy", name := "law", desc := "()I" } : Jvm.MethodName)) ∈ pT := List.mem_filter.mpr ⟨(tb_3 (List.mem_of_getElem? (i := 179) rfl)), by decide +kernel⟩
set_option maxRecDepth 100000 in
theorem w_1122 : (Jvm.Cond.methodLink "ScarArmyLaw" (140 : Nat) ({ cls := "ScarArmyLaw", name := "battle", desc := "(LScarArmy;II[J)I" } : Jvm.MethodName)) ∈ pT := List.mem_filter.mpr ⟨(tb_4 (List.mem_of_getElem? (i := 38) rfl)), by decide +kernel⟩
set_option maxRecDepth 100000 in
theorem w_1123 : (Jvm.Cond.static ({ cls := "ScarArmyLaw", name := "battle", desc := "(LScarArmy;II[J)I" } : Jvm.MethodName)) ∈ pT := List.mem_filter.mpr ⟨(tb_4 (List.mem_of_getElem? (i := 39) rfl)), by decide +kernel⟩
set_option maxRecDepth 100000 in
theorem w_1124 : (Jvm.Cond.codeWith ({ cls := "ScarArmyLaw", name := "battle", desc := "(LScarArmy;II[J)I" } : Jvm.MethodName) method_5_code (5 : Nat) (Option.some Jvm.ClassFile.FieldType.int) [((0 : Nat), (10 : Nat), (13 : Nat), (24 : Nat)), ((0 : Nat), (10 : Nat), (17 : Nat), (26 : Nat))]) ∈ pT := List.mem_filter.mpr ⟨(tb_4 (List.mem_of_getElem? (i := 40) rfl)), by decide +kernel⟩
set_option maxRecDepth 100000 in
theorem w_1125 : (Jvm.Cond.classLink "ScarArmyLaw" (24 : Nat) "java/lang/IndexOutOfBoundsException") ∈ pT := List.mem_filter.mpr ⟨(tb_4 (List.mem_of_getElem? (i := 41) rfl)), by decide +kernel⟩
set_option maxRecDepth 100000 in
theorem w_1126 : (Jvm.Cond.classLink "ScarArmyLaw" (26 : Nat) "java/util/NoSuchElementException") ∈ pT := List.mem_filter.mpr ⟨(tb_4 (List.mem_of_getElem? (i := 42) rfl)), by decide +kernel⟩
set_option maxRecDepth 100000 in
theorem w_1127 : (Jvm.Cond.methodLink "ScarArmyLaw" (20 : Nat) ({ cls := "ScarArmy", name := "battle", desc := "(II)I" } : Jvm.MethodName)) ∈ pT := List.mem_filter.mpr ⟨(tb_4 (List.mem_of_getElem? (i := 43) rfl)), by decide +kernel⟩
set_option maxRecDepth 100000 in
theorem w_1128 : (Jvm.Cond.instanceMethod ({ cls := "ScarArmy", name := "battle", desc := "(II)I" } : Jvm.MethodName)) ∈ pT := List.mem_filter.mpr ⟨(tb_4 (List.mem_of_getElem? (i := 44) rfl)), by decide +kernel⟩
set_option maxRecDepth 100000 in
theorem w_1129 : (Jvm.Cond.selects "ScarArmy" ({ cls := "ScarArmy", name := "battle", desc := "(II)I" } : Jvm.MethodName) ({ cls := "ScarArmy", name := "battle", desc := "(II)I" } : Jvm.MethodName)) ∈ pT := List.mem_filter.mpr ⟨(tb_4 (List.mem_of_getElem? (i := 45) rfl)), by decide +kernel⟩
set_option maxRecDepth 100000 in
theorem w_1184 : (Jvm.Cond.methodLink "ScarArmyLaw" (144 : Nat) ({ cls := "ScarArmyLaw", name := "man", desc := "(LScarArmy;II[J)I" } : Jvm.MethodName)) ∈ pT := List.mem_filter.mpr ⟨(tb_4 (List.mem_of_getElem? (i := 100) rfl)), by decide +kernel⟩
set_option maxRecDepth 100000 in
theorem w_1185 : (Jvm.Cond.static ({ cls := "ScarArmyLaw", name := "man", desc := "(LScarArmy;II[J)I" } : Jvm.MethodName)) ∈ pT := List.mem_filter.mpr ⟨(tb_4 (List.mem_of_getElem? (i := 101) rfl)), by decide +kernel⟩
set_option maxRecDepth 100000 in
theorem w_1186 : (Jvm.Cond.codeWith ({ cls := "ScarArmyLaw", name := "man", desc := "(LScarArmy;II[J)I" } : Jvm.MethodName) method_6_code (5 : Nat) (Option.some Jvm.ClassFile.FieldType.int) [((0 : Nat), (10 : Nat), (13 : Nat), (24 : Nat)), ((0 : Nat), (10 : Nat), (17 : Nat), (26 : Nat))]) ∈ pT := List.mem_filter.mpr ⟨(tb_4 (List.mem_of_getElem? (i := 102) rfl)), by decide +kernel⟩
set_option maxRecDepth 100000 in
theorem w_1187 : (Jvm.Cond.methodLink "ScarArmyLaw" (28 : Nat) ({ cls := "ScarArmy", name := "man", desc := "(II)I" } : Jvm.MethodName)) ∈ pT := List.mem_filter.mpr ⟨(tb_4 (List.mem_of_getElem? (i := 103) rfl)), by decide +kernel⟩
set_option maxRecDepth 100000 in
theorem w_1188 : (Jvm.Cond.instanceMethod ({ cls := "ScarArmy", name := "man", desc := "(II)I" } : Jvm.MethodName)) ∈ pT := List.mem_filter.mpr ⟨(tb_4 (List.mem_of_getElem? (i := 104) rfl)), by decide +kernel⟩
set_option maxRecDepth 100000 in
theorem w_1189 : (Jvm.Cond.selects "ScarArmy" ({ cls := "ScarArmy", name := "man", desc := "(II)I" } : Jvm.MethodName) ({ cls := "ScarArmy", name := "man", desc := "(II)I" } : Jvm.MethodName)) ∈ pT := List.mem_filter.mpr ⟨(tb_4 (List.mem_of_getElem? (i := 105) rfl)), by decide +kernel⟩
set_option maxRecDepth 100000 in
theorem w_1216 : (Jvm.Cond.methodLink "ScarArmyLaw" (147 : Nat) ({ cls := "ScarArmyLaw", name := "scar", desc := "(LScarArmy;II[J)I" } : Jvm.MethodName)) ∈ pT := List.mem_filter.mpr ⟨(tb_4 (List.mem_of_getElem? (i := 132) rfl)), by decide +kernel⟩
set_option maxRecDepth 100000 in
theorem w_1217 : (Jvm.Cond.static ({ cls := "ScarArmyLaw", name := "scar", desc := "(LScarArmy;II[J)I" } : Jvm.MethodName)) ∈ pT := List.mem_filter.mpr ⟨(tb_4 (List.mem_of_getElem? (i := 133) rfl)), by decide +kernel⟩
set_option maxRecDepth 100000 in
theorem w_1218 : (Jvm.Cond.codeWith ({ cls := "ScarArmyLaw", name := "scar", desc := "(LScarArmy;II[J)I" } : Jvm.MethodName) method_7_code (5 : Nat) (Option.some Jvm.ClassFile.FieldType.int) [((0 : Nat), (10 : Nat), (13 : Nat), (24 : Nat)), ((0 : Nat), (10 : Nat), (17 : Nat), (26 : Nat))]) ∈ pT := List.mem_filter.mpr ⟨(tb_4 (List.mem_of_getElem? (i := 134) rfl)), by decide +kernel⟩
set_option maxRecDepth 100000 in
theorem w_1219 : (Jvm.Cond.methodLink "ScarArmyLaw" (31 : Nat) ({ cls := "ScarArmy", name := "scar", desc := "(II)I" } : Jvm.MethodName)) ∈ pT := List.mem_filter.mpr ⟨(tb_4 (List.mem_of_getElem? (i := 135) rfl)), by decide +kernel⟩
set_option maxRecDepth 100000 in
theorem w_1220 : (Jvm.Cond.instanceMethod ({ cls := "ScarArmy", name := "scar", desc := "(II)I" } : Jvm.MethodName)) ∈ pT := List.mem_filter.mpr ⟨(tb_4 (List.mem_of_getElem? (i := 136) rfl)), by decide +kernel⟩
set_option maxRecDepth 100000 in
theorem w_1221 : (Jvm.Cond.selects "ScarArmy" ({ cls := "ScarArmy", name := "scar", desc := "(II)I" } : Jvm.MethodName) ({ cls := "ScarArmy", name := "scar", desc := "(II)I" } : Jvm.MethodName)) ∈ pT := List.mem_filter.mpr ⟨(tb_4 (List.mem_of_getElem? (i := 137) rfl)), by decide +kernel⟩
set_option maxRecDepth 100000 in
theorem w_1235 : (Jvm.Cond.methodLink "ScarArmyLaw" (150 : Nat) ({ cls := "ScarArmyLaw", name := "who", desc := "(LScarArmy;I[J)I" } : Jvm.MethodName)) ∈ pT := List.mem_filter.mpr ⟨(tb_4 (List.mem_of_getElem? (i := 151) rfl)), by decide +kernel⟩
set_option maxRecDepth 100000 in
theorem w_1236 : (Jvm.Cond.static ({ cls := "ScarArmyLaw", name := "who", desc := "(LScarArmy;I[J)I" } : Jvm.MethodName)) ∈ pT := List.mem_filter.mpr ⟨(tb_4 (List.mem_of_getElem? (i := 152) rfl)), by decide +kernel⟩
set_option maxRecDepth 100000 in
theorem w_1237 : (Jvm.Cond.codeWith ({ cls := "ScarArmyLaw", name := "who", desc := "(LScarArmy;I[J)I" } : Jvm.MethodName) method_8_code (4 : Nat) (Option.some Jvm.ClassFile.FieldType.int) [((0 : Nat), (9 : Nat), (12 : Nat), (24 : Nat))]) ∈ pT := List.mem_filter.mpr ⟨(tb_4 (List.mem_of_getElem? (i := 153) rfl)), by decide +kernel⟩
set_option maxRecDepth 100000 in
theorem w_1238 : (Jvm.Cond.methodLink "ScarArmyLaw" (34 : Nat) ({ cls := "ScarArmy", name := "who", desc := "(I)I" } : Jvm.MethodName)) ∈ pT := List.mem_filter.mpr ⟨(tb_4 (List.mem_of_getElem? (i := 154) rfl)), by decide +kernel⟩
set_option maxRecDepth 100000 in
theorem w_1239 : (Jvm.Cond.instanceMethod ({ cls := "ScarArmy", name := "who", desc := "(I)I" } : Jvm.MethodName)) ∈ pT := List.mem_filter.mpr ⟨(tb_4 (List.mem_of_getElem? (i := 155) rfl)), by decide +kernel⟩
set_option maxRecDepth 100000 in
theorem w_1240 : (Jvm.Cond.selects "ScarArmy" ({ cls := "ScarArmy", name := "who", desc := "(I)I" } : Jvm.MethodName) ({ cls := "ScarArmy", name := "who", desc := "(I)I" } : Jvm.MethodName)) ∈ pT := List.mem_filter.mpr ⟨(tb_4 (List.mem_of_getElem? (i := 156) rfl)), by decide +kernel⟩
set_option maxRecDepth 100000 in
theorem w_1246 : (Jvm.Cond.methodLink "ScarArmyLaw" (154 : Nat) ({ cls := "ScarArmyLaw", name := "hand", desc := "(LScarArmy;III[J)I" } : Jvm.MethodName)) ∈ pT := List.mem_filter.mpr ⟨(tb_4 (List.mem_of_getElem? (i := 162) rfl)), by decide +kernel⟩
set_option maxRecDepth 100000 in
theorem w_1247 : (Jvm.Cond.static ({ cls := "ScarArmyLaw", name := "hand", desc := "(LScarArmy;III[J)I" } : Jvm.MethodName)) ∈ pT := List.mem_filter.mpr ⟨(tb_4 (List.mem_of_getElem? (i := 163) rfl)), by decide +kernel⟩
set_option maxRecDepth 100000 in
theorem w_1248 : (Jvm.Cond.codeWith ({ cls := "ScarArmyLaw", name := "hand", desc := "(LScarArmy;III[J)I" } : Jvm.MethodName) method_9_code (6 : Nat) (Option.some Jvm.ClassFile.FieldType.int) [((0 : Nat), (12 : Nat), (15 : Nat), (24 : Nat)), ((0 : Nat), (12 : Nat), (19 : Nat), (13 : Nat)), ((0 : Nat), (12 : Nat), (23 : Nat), (42 : Nat))]) ∈ pT := List.mem_filter.mpr ⟨(tb_4 (List.mem_of_getElem? (i := 164) rfl)), by decide +kernel⟩
set_option maxRecDepth 100000 in
theorem w_1249 : (Jvm.Cond.classLink "ScarArmyLaw" (42 : Nat) "java/lang/IllegalStateException") ∈ pT := List.mem_filter.mpr ⟨(tb_4 (List.mem_of_getElem? (i := 165) rfl)), by decide +kernel⟩
set_option maxRecDepth 100000 in
theorem w_1250 : (Jvm.Cond.methodLink "ScarArmyLaw" (38 : Nat) ({ cls := "ScarArmy", name := "hand", desc := "(III)I" } : Jvm.MethodName)) ∈ pT := List.mem_filter.mpr ⟨(tb_4 (List.mem_of_getElem? (i := 166) rfl)), by decide +kernel⟩
set_option maxRecDepth 100000 in
theorem w_1251 : (Jvm.Cond.instanceMethod ({ cls := "ScarArmy", name := "hand", desc := "(III)I" } : Jvm.MethodName)) ∈ pT := List.mem_filter.mpr ⟨(tb_4 (List.mem_of_getElem? (i := 167) rfl)), by decide +kernel⟩
set_option maxRecDepth 100000 in
theorem w_1252 : (Jvm.Cond.selects "ScarArmy" ({ cls := "ScarArmy", name := "hand", desc := "(III)I" } : Jvm.MethodName) ({ cls := "ScarArmy", name := "hand", desc := "(III)I" } : Jvm.MethodName)) ∈ pT := List.mem_filter.mpr ⟨(tb_4 (List.mem_of_getElem? (i := 168) rfl)), by decide +kernel⟩
set_option maxRecDepth 100000 in
theorem w_1294 : (Jvm.Cond.methodLink "ScarArmyLaw" (158 : Nat) ({ cls := "ScarArmyLaw", name := "polish", desc := "(LScarArmy;II[J)I" } : Jvm.MethodName)) ∈ pT := List.mem_filter.mpr ⟨(tb_4 (List.mem_of_getElem? (i := 210) rfl)), by decide +kernel⟩
set_option maxRecDepth 100000 in
theorem w_1295 : (Jvm.Cond.static ({ cls := "ScarArmyLaw", name := "polish", desc := "(LScarArmy;II[J)I" } : Jvm.MethodName)) ∈ pT := List.mem_filter.mpr ⟨(tb_4 (List.mem_of_getElem? (i := 211) rfl)), by decide +kernel⟩
set_option maxRecDepth 100000 in
theorem w_1296 : (Jvm.Cond.codeWith ({ cls := "ScarArmyLaw", name := "polish", desc := "(LScarArmy;II[J)I" } : Jvm.MethodName) method_10_code (5 : Nat) (Option.some Jvm.ClassFile.FieldType.int) [((0 : Nat), (10 : Nat), (13 : Nat), (24 : Nat)), ((0 : Nat), (10 : Nat), (17 : Nat), (42 : Nat))]) ∈ pT := List.mem_filter.mpr ⟨(tb_4 (List.mem_of_getElem? (i := 212) rfl)), by decide +kernel⟩
set_option maxRecDepth 100000 in
theorem w_1297 : (Jvm.Cond.methodLink "ScarArmyLaw" (44 : Nat) ({ cls := "ScarArmy", name := "polish", desc := "(II)I" } : Jvm.MethodName)) ∈ pT := List.mem_filter.mpr ⟨(tb_4 (List.mem_of_getElem? (i := 213) rfl)), by decide +kernel⟩
set_option maxRecDepth 100000 in
theorem w_1298 : (Jvm.Cond.instanceMethod ({ cls := "ScarArmy", name := "polish", desc := "(II)I" } : Jvm.MethodName)) ∈ pT := List.mem_filter.mpr ⟨(tb_4 (List.mem_of_getElem? (i := 214) rfl)), by decide +kernel⟩
set_option maxRecDepth 100000 in
theorem w_1299 : (Jvm.Cond.selects "ScarArmy" ({ cls := "ScarArmy", name := "polish", desc := "(II)I" } : Jvm.MethodName) ({ cls := "ScarArmy", name := "polish", desc := "(II)I" } : Jvm.MethodName)) ∈ pT := List.mem_filter.mpr ⟨(tb_4 (List.mem_of_getElem? (i := 215) rfl)), by decide +kernel⟩
set_option maxRecDepth 100000 in
theorem w_1311 : (Jvm.Cond.methodLink "ScarArmyLaw" (161 : Nat) ({ cls := "ScarArmyLaw", name := "die", desc := "(LScarArmy;I[J)I" } : Jvm.MethodName)) ∈ pT := List.mem_filter.mpr ⟨(tb_4 (List.mem_of_getElem? (i := 227) rfl)), by decide +kernel⟩
set_option maxRecDepth 100000 in
theorem w_1312 : (Jvm.Cond.static ({ cls := "ScarArmyLaw", name := "die", desc := "(LScarArmy;I[J)I" } : Jvm.MethodName)) ∈ pT := List.mem_filter.mpr ⟨(tb_4 (List.mem_of_getElem? (i := 228) rfl)), by decide +kernel⟩
set_option maxRecDepth 100000 in
theorem w_1313 : (Jvm.Cond.codeWith ({ cls := "ScarArmyLaw", name := "die", desc := "(LScarArmy;I[J)I" } : Jvm.MethodName) method_11_code (4 : Nat) (Option.some Jvm.ClassFile.FieldType.int) [((0 : Nat), (9 : Nat), (12 : Nat), (24 : Nat)), ((0 : Nat), (9 : Nat), (15 : Nat), (42 : Nat))]) ∈ pT := List.mem_filter.mpr ⟨(tb_4 (List.mem_of_getElem? (i := 229) rfl)), by decide +kernel⟩
set_option maxRecDepth 100000 in
theorem w_1314 : (Jvm.Cond.methodLink "ScarArmyLaw" (47 : Nat) ({ cls := "ScarArmy", name := "die", desc := "(I)I" } : Jvm.MethodName)) ∈ pT := List.mem_filter.mpr ⟨(tb_4 (List.mem_of_getElem? (i := 230) rfl)), by decide +kernel⟩
set_option maxRecDepth 100000 in
theorem w_1315 : (Jvm.Cond.instanceMethod ({ cls := "ScarArmy", name := "die", desc := "(I)I" } : Jvm.MethodName)) ∈ pT := List.mem_filter.mpr ⟨(tb_4 (List.mem_of_getElem? (i := 231) rfl)), by decide +kernel⟩
set_option maxRecDepth 100000 in
theorem w_1316 : (Jvm.Cond.selects "ScarArmy" ({ cls := "ScarArmy", name := "die", desc := "(I)I" } : Jvm.MethodName) ({ cls := "ScarArmy", name := "die", desc := "(I)I" } : Jvm.MethodName)) ∈ pT := List.mem_filter.mpr ⟨(tb_4 (List.mem_of_getElem? (i := 232) rfl)), by decide +kernel⟩
set_option maxRecDepth 100000 in
theorem w_1320 : (Jvm.Cond.methodLink "ScarArmyLaw" (164 : Nat) ({ cls := "ScarArmyLaw", name := "widow", desc := "(LScarArmy;II[J)I" } : Jvm.MethodName)) ∈ pT := List.mem_filter.mpr ⟨(tb_4 (List.mem_of_getElem? (i := 236) rfl)), by decide +kernel⟩
set_option maxRecDepth 100000 in
theorem w_1321 : (Jvm.Cond.static ({ cls := "ScarArmyLaw", name := "widow", desc := "(LScarArmy;II[J)I" } : Jvm.MethodName)) ∈ pT := List.mem_filter.mpr ⟨(tb_4 (List.mem_of_getElem? (i := 237) rfl)), by decide +kernel⟩
set_option maxRecDepth 100000 in
theorem w_1322 : (Jvm.Cond.codeWith ({ cls := "ScarArmyLaw", name := "widow", desc := "(LScarArmy;II[J)I" } : Jvm.MethodName) method_12_code (5 : Nat) (Option.some Jvm.ClassFile.FieldType.int) [((0 : Nat), (10 : Nat), (13 : Nat), (24 : Nat)), ((0 : Nat), (10 : Nat), (17 : Nat), (13 : Nat)), ((0 : Nat), (10 : Nat), (21 : Nat), (42 : Nat))]) ∈ pT := List.mem_filter.mpr ⟨(tb_4 (List.mem_of_getElem? (i := 238) rfl)), by decide +kernel⟩
set_option maxRecDepth 100000 in
theorem w_1323 : (Jvm.Cond.methodLink "ScarArmyLaw" (50 : Nat) ({ cls := "ScarArmy", name := "widow", desc := "(II)I" } : Jvm.MethodName)) ∈ pT := List.mem_filter.mpr ⟨(tb_4 (List.mem_of_getElem? (i := 239) rfl)), by decide +kernel⟩
set_option maxRecDepth 100000 in
theorem w_1324 : (Jvm.Cond.instanceMethod ({ cls := "ScarArmy", name := "widow", desc := "(II)I" } : Jvm.MethodName)) ∈ pT := List.mem_filter.mpr ⟨(tb_5 (List.mem_of_getElem? (i := 0) rfl)), by decide +kernel⟩
set_option maxRecDepth 100000 in
theorem w_1325 : (Jvm.Cond.selects "ScarArmy" ({ cls := "ScarArmy", name := "widow", desc := "(II)I" } : Jvm.MethodName) ({ cls := "ScarArmy", name := "widow", desc := "(II)I" } : Jvm.MethodName)) ∈ pT := List.mem_filter.mpr ⟨(tb_5 (List.mem_of_getElem? (i := 1) rfl)), by decide +kernel⟩
set_option maxRecDepth 100000 in
theorem w_1333 : (Jvm.Cond.methodLink "ScarArmyLaw" (167 : Nat) ({ cls := "ScarArmyLaw", name := "wound", desc := "(LScarArmy;IIIII[J)I" } : Jvm.MethodName)) ∈ pT := List.mem_filter.mpr ⟨(tb_5 (List.mem_of_getElem? (i := 9) rfl)), by decide +kernel⟩
set_option maxRecDepth 100000 in
theorem w_1334 : (Jvm.Cond.static ({ cls := "ScarArmyLaw", name := "wound", desc := "(LScarArmy;IIIII[J)I" } : Jvm.MethodName)) ∈ pT := List.mem_filter.mpr ⟨(tb_5 (List.mem_of_getElem? (i := 10) rfl)), by decide +kernel⟩
set_option maxRecDepth 100000 in
theorem w_1335 : (Jvm.Cond.codeWith ({ cls := "ScarArmyLaw", name := "wound", desc := "(LScarArmy;IIIII[J)I" } : Jvm.MethodName) method_13_code (8 : Nat) (Option.some Jvm.ClassFile.FieldType.int) [((0 : Nat), (16 : Nat), (19 : Nat), (24 : Nat)), ((0 : Nat), (16 : Nat), (23 : Nat), (13 : Nat)), ((0 : Nat), (16 : Nat), (27 : Nat), (42 : Nat)), ((0 : Nat), (16 : Nat), (31 : Nat), (15 : Nat))]) ∈ pT := List.mem_filter.mpr ⟨(tb_5 (List.mem_of_getElem? (i := 11) rfl)), by decide +kernel⟩
set_option maxRecDepth 100000 in
theorem w_1336 : (Jvm.Cond.methodLink "ScarArmyLaw" (53 : Nat) ({ cls := "ScarArmy", name := "wound", desc := "(IIIII)I" } : Jvm.MethodName)) ∈ pT := List.mem_filter.mpr ⟨(tb_5 (List.mem_of_getElem? (i := 12) rfl)), by decide +kernel⟩
set_option maxRecDepth 100000 in
theorem w_1337 : (Jvm.Cond.instanceMethod ({ cls := "ScarArmy", name := "wound", desc := "(IIIII)I" } : Jvm.MethodName)) ∈ pT := List.mem_filter.mpr ⟨(tb_5 (List.mem_of_getElem? (i := 13) rfl)), by decide +kernel⟩
set_option maxRecDepth 100000 in
theorem w_1338 : (Jvm.Cond.selects "ScarArmy" ({ cls := "ScarArmy", name := "wound", desc := "(IIIII)I" } : Jvm.MethodName) ({ cls := "ScarArmy", name := "wound", desc := "(IIIII)I" } : Jvm.MethodName)) ∈ pT := List.mem_filter.mpr ⟨(tb_5 (List.mem_of_getElem? (i := 14) rfl)), by decide +kernel⟩
set_option maxRecDepth 100000 in
theorem w_1345 : (Jvm.Cond.methodLink "ScarArmyLaw" (171 : Nat) ({ cls := "ScarArmyLaw", name := "days", desc := "(LScarArmy;I[J)I" } : Jvm.MethodName)) ∈ pT := List.mem_filter.mpr ⟨(tb_5 (List.mem_of_getElem? (i := 21) rfl)), by decide +kernel⟩
set_option maxRecDepth 100000 in
theorem w_1346 : (Jvm.Cond.static ({ cls := "ScarArmyLaw", name := "days", desc := "(LScarArmy;I[J)I" } : Jvm.MethodName)) ∈ pT := List.mem_filter.mpr ⟨(tb_5 (List.mem_of_getElem? (i := 22) rfl)), by decide +kernel⟩
set_option maxRecDepth 100000 in
theorem w_1347 : (Jvm.Cond.codeWith ({ cls := "ScarArmyLaw", name := "days", desc := "(LScarArmy;I[J)I" } : Jvm.MethodName) method_14_code (4 : Nat) (Option.some Jvm.ClassFile.FieldType.int) [((0 : Nat), (9 : Nat), (12 : Nat), (13 : Nat))]) ∈ pT := List.mem_filter.mpr ⟨(tb_5 (List.mem_of_getElem? (i := 23) rfl)), by decide +kernel⟩
set_option maxRecDepth 100000 in
theorem w_1348 : (Jvm.Cond.methodLink "ScarArmyLaw" (57 : Nat) ({ cls := "ScarArmy", name := "days", desc := "(I)I" } : Jvm.MethodName)) ∈ pT := List.mem_filter.mpr ⟨(tb_5 (List.mem_of_getElem? (i := 24) rfl)), by decide +kernel⟩
set_option maxRecDepth 100000 in
theorem w_1349 : (Jvm.Cond.instanceMethod ({ cls := "ScarArmy", name := "days", desc := "(I)I" } : Jvm.MethodName)) ∈ pT := List.mem_filter.mpr ⟨(tb_5 (List.mem_of_getElem? (i := 25) rfl)), by decide +kernel⟩
set_option maxRecDepth 100000 in
theorem w_1350 : (Jvm.Cond.selects "ScarArmy" ({ cls := "ScarArmy", name := "days", desc := "(I)I" } : Jvm.MethodName) ({ cls := "ScarArmy", name := "days", desc := "(I)I" } : Jvm.MethodName)) ∈ pT := List.mem_filter.mpr ⟨(tb_5 (List.mem_of_getElem? (i := 26) rfl)), by decide +kernel⟩
set_option maxRecDepth 100000 in
theorem w_1363 : (Jvm.Cond.methodLink "ScarArmyLaw" (174 : Nat) ({ cls := "ScarArmyLaw", name := "market", desc := "(LScarArmy;I[J)I" } : Jvm.MethodName)) ∈ pT := List.mem_filter.mpr ⟨(tb_5 (List.mem_of_getElem? (i := 39) rfl)), by decide +kernel⟩
set_option maxRecDepth 100000 in
theorem w_1364 : (Jvm.Cond.static ({ cls := "ScarArmyLaw", name := "market", desc := "(LScarArmy;I[J)I" } : Jvm.MethodName)) ∈ pT := List.mem_filter.mpr ⟨(tb_5 (List.mem_of_getElem? (i := 40) rfl)), by decide +kernel⟩
set_option maxRecDepth 100000 in
theorem w_1365 : (Jvm.Cond.codeWith ({ cls := "ScarArmyLaw", name := "market", desc := "(LScarArmy;I[J)I" } : Jvm.MethodName) method_15_code (4 : Nat) (Option.some Jvm.ClassFile.FieldType.int) [((0 : Nat), (9 : Nat), (12 : Nat), (13 : Nat))]) ∈ pT := List.mem_filter.mpr ⟨(tb_5 (List.mem_of_getElem? (i := 41) rfl)), by decide +kernel⟩
set_option maxRecDepth 100000 in
theorem w_1366 : (Jvm.Cond.methodLink "ScarArmyLaw" (60 : Nat) ({ cls := "ScarArmy", name := "market", desc := "(I)I" } : Jvm.MethodName)) ∈ pT := List.mem_filter.mpr ⟨(tb_5 (List.mem_of_getElem? (i := 42) rfl)), by decide +kernel⟩
set_option maxRecDepth 100000 in
theorem w_1367 : (Jvm.Cond.instanceMethod ({ cls := "ScarArmy", name := "market", desc := "(I)I" } : Jvm.MethodName)) ∈ pT := List.mem_filter.mpr ⟨(tb_5 (List.mem_of_getElem? (i := 43) rfl)), by decide +kernel⟩
set_option maxRecDepth 100000 in
theorem w_1368 : (Jvm.Cond.selects "ScarArmy" ({ cls := "ScarArmy", name := "market", desc := "(I)I" } : Jvm.MethodName) ({ cls := "ScarArmy", name := "market", desc := "(I)I" } : Jvm.MethodName)) ∈ pT := List.mem_filter.mpr ⟨(tb_5 (List.mem_of_getElem? (i := 44) rfl)), by decide +kernel⟩
set_option maxRecDepth 100000 in
theorem w_1385 : (Jvm.Cond.methodLink "ScarArmyLaw" (185 : Nat) ({ cls := "ScarArmyLaw", name := "largest", desc := "(LScarArmy;IZ[J)I" } : Jvm.MethodName)) ∈ pT := List.mem_filter.mpr ⟨(tb_5 (List.mem_of_getElem? (i := 61) rfl)), by decide +kernel⟩
set_option maxRecDepth 100000 in
theorem w_1386 : (Jvm.Cond.static ({ cls := "ScarArmyLaw", name := "largest", desc := "(LScarArmy;IZ[J)I" } : Jvm.MethodName)) ∈ pT := List.mem_filter.mpr ⟨(tb_5 (List.mem_of_getElem? (i := 62) rfl)), by decide +kernel⟩
set_option maxRecDepth 100000 in
theorem w_1387 : (Jvm.Cond.codeWith ({ cls := "ScarArmyLaw", name := "largest", desc := "(LScarArmy;IZ[J)I" } : Jvm.MethodName) method_16_code (5 : Nat) (Option.some Jvm.ClassFile.FieldType.int) [((0 : Nat), (10 : Nat), (13 : Nat), (24 : Nat))]) ∈ pT := List.mem_filter.mpr ⟨(tb_5 (List.mem_of_getElem? (i := 63) rfl)), by decide +kernel⟩
set_option maxRecDepth 100000 in
theorem w_1388 : (Jvm.Cond.methodLink "ScarArmyLaw" (63 : Nat) ({ cls := "ScarArmy", name := "largest", desc := "(IZ)I" } : Jvm.MethodName)) ∈ pT := List.mem_filter.mpr ⟨(tb_5 (List.mem_of_getElem? (i := 64) rfl)), by decide +kernel⟩
set_option maxRecDepth 100000 in
theorem w_1389 : (Jvm.Cond.instanceMethod ({ cls := "ScarArmy", name := "largest", desc := "(IZ)I" } : Jvm.MethodName)) ∈ pT := List.mem_filter.mpr ⟨(tb_5 (List.mem_of_getElem? (i := 65) rfl)), by decide +kernel⟩
set_option maxRecDepth 100000 in
theorem w_1390 : (Jvm.Cond.selects "ScarArmy" ({ cls := "ScarArmy", name := "largest", desc := "(IZ)I" } : Jvm.MethodName) ({ cls := "ScarArmy", name := "largest", desc := "(IZ)I" } : Jvm.MethodName)) ∈ pT := List.mem_filter.mpr ⟨(tb_5 (List.mem_of_getElem? (i := 66) rfl)), by decide +kernel⟩
set_option maxRecDepth 100000 in
theorem w_1400 : (Jvm.Cond.methodLink "ScarArmyLaw" (189 : Nat) ({ cls := "ScarArmyLaw", name := "betrays", desc := "(LScarArmy;I[J)I" } : Jvm.MethodName)) ∈ pT := List.mem_filter.mpr ⟨(tb_5 (List.mem_of_getElem? (i := 76) rfl)), by decide +kernel⟩
set_option maxRecDepth 100000 in
theorem w_1401 : (Jvm.Cond.static ({ cls := "ScarArmyLaw", name := "betrays", desc := "(LScarArmy;I[J)I" } : Jvm.MethodName)) ∈ pT := List.mem_filter.mpr ⟨(tb_5 (List.mem_of_getElem? (i := 77) rfl)), by decide +kernel⟩
set_option maxRecDepth 100000 in
theorem w_1402 : (Jvm.Cond.codeWith ({ cls := "ScarArmyLaw", name := "betrays", desc := "(LScarArmy;I[J)I" } : Jvm.MethodName) method_17_code (4 : Nat) (Option.some Jvm.ClassFile.FieldType.int) [((0 : Nat), (9 : Nat), (12 : Nat), (24 : Nat))]) ∈ pT := List.mem_filter.mpr ⟨(tb_5 (List.mem_of_getElem? (i := 78) rfl)), by decide +kernel⟩
set_option maxRecDepth 100000 in
theorem w_1403 : (Jvm.Cond.methodLink "ScarArmyLaw" (67 : Nat) ({ cls := "ScarArmy", name := "betrays", desc := "(I)I" } : Jvm.MethodName)) ∈ pT := List.mem_filter.mpr ⟨(tb_5 (List.mem_of_getElem? (i := 79) rfl)), by decide +kernel⟩
set_option maxRecDepth 100000 in
theorem w_1404 : (Jvm.Cond.instanceMethod ({ cls := "ScarArmy", name := "betrays", desc := "(I)I" } : Jvm.MethodName)) ∈ pT := List.mem_filter.mpr ⟨(tb_5 (List.mem_of_getElem? (i := 80) rfl)), by decide +kernel⟩
set_option maxRecDepth 100000 in
theorem w_1405 : (Jvm.Cond.selects "ScarArmy" ({ cls := "ScarArmy", name := "betrays", desc := "(I)I" } : Jvm.MethodName) ({ cls := "ScarArmy", name := "betrays", desc := "(I)I" } : Jvm.MethodName)) ∈ pT := List.mem_filter.mpr ⟨(tb_5 (List.mem_of_getElem? (i := 81) rfl)), by decide +kernel⟩
set_option maxRecDepth 100000 in
theorem w_1411 : (Jvm.Cond.methodLink "ScarArmyLaw" (196 : Nat) ({ cls := "ScarArmyLaw", name := "least", desc := "(LScarArmy;IIZ[J)I" } : Jvm.MethodName)) ∈ pT := List.mem_filter.mpr ⟨(tb_5 (List.mem_of_getElem? (i := 87) rfl)), by decide +kernel⟩
set_option maxRecDepth 100000 in
theorem w_1412 : (Jvm.Cond.static ({ cls := "ScarArmyLaw", name := "least", desc := "(LScarArmy;IIZ[J)I" } : Jvm.MethodName)) ∈ pT := List.mem_filter.mpr ⟨(tb_5 (List.mem_of_getElem? (i := 88) rfl)), by decide +kernel⟩
set_option maxRecDepth 100000 in
theorem w_1413 : (Jvm.Cond.codeWith ({ cls := "ScarArmyLaw", name := "least", desc := "(LScarArmy;IIZ[J)I" } : Jvm.MethodName) method_18_code (6 : Nat) (Option.some Jvm.ClassFile.FieldType.int) [((0 : Nat), (12 : Nat), (15 : Nat), (24 : Nat)), ((0 : Nat), (12 : Nat), (19 : Nat), (13 : Nat)), ((0 : Nat), (12 : Nat), (23 : Nat), (42 : Nat))]) ∈ pT := List.mem_filter.mpr ⟨(tb_5 (List.mem_of_getElem? (i := 89) rfl)), by decide +kernel⟩
set_option maxRecDepth 100000 in
theorem w_1414 : (Jvm.Cond.methodLink "ScarArmyLaw" (70 : Nat) ({ cls := "ScarArmy", name := "least", desc := "(IIZ)I" } : Jvm.MethodName)) ∈ pT := List.mem_filter.mpr ⟨(tb_5 (List.mem_of_getElem? (i := 90) rfl)), by decide +kernel⟩
set_option maxRecDepth 100000 in
theorem w_1415 : (Jvm.Cond.instanceMethod ({ cls := "ScarArmy", name := "least", desc := "(IIZ)I" } : Jvm.MethodName)) ∈ pT := List.mem_filter.mpr ⟨(tb_5 (List.mem_of_getElem? (i := 91) rfl)), by decide +kernel⟩
set_option maxRecDepth 100000 in
theorem w_1416 : (Jvm.Cond.selects "ScarArmy" ({ cls := "ScarArmy", name := "least", desc := "(IIZ)I" } : Jvm.MethodName) ({ cls := "ScarArmy", name := "least", desc := "(IIZ)I" } : Jvm.MethodName)) ∈ pT := List.mem_filter.mpr ⟨(tb_5 (List.mem_of_getElem? (i := 92) rfl)), by decide +kernel⟩
set_option maxRecDepth 100000 in
theorem w_1432 : (Jvm.Cond.methodLink "ScarArmyLaw" (200 : Nat) ({ cls := "ScarArmyLaw", name := "gains", desc := "(LScarArmy;II[J)I" } : Jvm.MethodName)) ∈ pT := List.mem_filter.mpr ⟨(tb_5 (List.mem_of_getElem? (i := 108) rfl)), by decide +kernel⟩
set_option maxRecDepth 100000 in
theorem w_1433 : (Jvm.Cond.static ({ cls := "ScarArmyLaw", name := "gains", desc := "(LScarArmy;II[J)I" } : Jvm.MethodName)) ∈ pT := List.mem_filter.mpr ⟨(tb_5 (List.mem_of_getElem? (i := 109) rfl)), by decide +kernel⟩
set_option maxRecDepth 100000 in
theorem w_1434 : (Jvm.Cond.codeWith ({ cls := "ScarArmyLaw", name := "gains", desc := "(LScarArmy;II[J)I" } : Jvm.MethodName) method_19_code (5 : Nat) (Option.some Jvm.ClassFile.FieldType.int) [((0 : Nat), (10 : Nat), (13 : Nat), (24 : Nat))]) ∈ pT := List.mem_filter.mpr ⟨(tb_5 (List.mem_of_getElem? (i := 110) rfl)), by decide +kernel⟩
set_option maxRecDepth 100000 in
theorem w_1435 : (Jvm.Cond.methodLink "ScarArmyLaw" (74 : Nat) ({ cls := "ScarArmy", name := "gains", desc := "(II)I" } : Jvm.MethodName)) ∈ pT := List.mem_filter.mpr ⟨(tb_5 (List.mem_of_getElem? (i := 111) rfl)), by decide +kernel⟩
set_option maxRecDepth 100000 in
theorem w_1436 : (Jvm.Cond.instanceMethod ({ cls := "ScarArmy", name := "gains", desc := "(II)I" } : Jvm.MethodName)) ∈ pT := List.mem_filter.mpr ⟨(tb_5 (List.mem_of_getElem? (i := 112) rfl)), by decide +kernel⟩
set_option maxRecDepth 100000 in
theorem w_1437 : (Jvm.Cond.selects "ScarArmy" ({ cls := "ScarArmy", name := "gains", desc := "(II)I" } : Jvm.MethodName) ({ cls := "ScarArmy", name := "gains", desc := "(II)I" } : Jvm.MethodName)) ∈ pT := List.mem_filter.mpr ⟨(tb_5 (List.mem_of_getElem? (i := 113) rfl)), by decide +kernel⟩
set_option maxRecDepth 100000 in
theorem w_1440 : (Jvm.Cond.methodLink "ScarArmyLaw" (203 : Nat) ({ cls := "ScarArmyLaw", name := "buyer", desc := "(LScarArmy;I[J)I" } : Jvm.MethodName)) ∈ pT := List.mem_filter.mpr ⟨(tb_5 (List.mem_of_getElem? (i := 116) rfl)), by decide +kernel⟩
set_option maxRecDepth 100000 in
theorem w_1441 : (Jvm.Cond.static ({ cls := "ScarArmyLaw", name := "buyer", desc := "(LScarArmy;I[J)I" } : Jvm.MethodName)) ∈ pT := List.mem_filter.mpr ⟨(tb_5 (List.mem_of_getElem? (i := 117) rfl)), by decide +kernel⟩
set_option maxRecDepth 100000 in
theorem w_1442 : (Jvm.Cond.codeWith ({ cls := "ScarArmyLaw", name := "buyer", desc := "(LScarArmy;I[J)I" } : Jvm.MethodName) method_20_code (4 : Nat) (Option.some Jvm.ClassFile.FieldType.int) [((0 : Nat), (9 : Nat), (12 : Nat), (24 : Nat))]) ∈ pT := List.mem_filter.mpr ⟨(tb_5 (List.mem_of_getElem? (i := 118) rfl)), by decide +kernel⟩
set_option maxRecDepth 100000 in
theorem w_1443 : (Jvm.Cond.methodLink "ScarArmyLaw" (77 : Nat) ({ cls := "ScarArmy", name := "buyer", desc := "(I)I" } : Jvm.MethodName)) ∈ pT := List.mem_filter.mpr ⟨(tb_5 (List.mem_of_getElem? (i := 119) rfl)), by decide +kernel⟩
set_option maxRecDepth 100000 in
theorem w_1444 : (Jvm.Cond.instanceMethod ({ cls := "ScarArmy", name := "buyer", desc := "(I)I" } : Jvm.MethodName)) ∈ pT := List.mem_filter.mpr ⟨(tb_5 (List.mem_of_getElem? (i := 120) rfl)), by decide +kernel⟩
set_option maxRecDepth 100000 in
theorem w_1445 : (Jvm.Cond.selects "ScarArmy" ({ cls := "ScarArmy", name := "buyer", desc := "(I)I" } : Jvm.MethodName) ({ cls := "ScarArmy", name := "buyer", desc := "(I)I" } : Jvm.MethodName)) ∈ pT := List.mem_filter.mpr ⟨(tb_5 (List.mem_of_getElem? (i := 121) rfl)), by decide +kernel⟩
set_option maxRecDepth 100000 in
theorem w_1448 : (Jvm.Cond.methodLink "ScarArmyLaw" (206 : Nat) ({ cls := "ScarArmyLaw", name := "enemies", desc := "(LScarArmy;I[J)I" } : Jvm.MethodName)) ∈ pT := List.mem_filter.mpr ⟨(tb_5 (List.mem_of_getElem? (i := 124) rfl)), by decide +kernel⟩
set_option maxRecDepth 100000 in
theorem w_1449 : (Jvm.Cond.static ({ cls := "ScarArmyLaw", name := "enemies", desc := "(LScarArmy;I[J)I" } : Jvm.MethodName)) ∈ pT := List.mem_filter.mpr ⟨(tb_5 (List.mem_of_getElem? (i := 125) rfl)), by decide +kernel⟩
set_option maxRecDepth 100000 in
theorem w_1450 : (Jvm.Cond.codeWith ({ cls := "ScarArmyLaw", name := "enemies", desc := "(LScarArmy;I[J)I" } : Jvm.MethodName) method_21_code (4 : Nat) (Option.some Jvm.ClassFile.FieldType.int) [((0 : Nat), (9 : Nat), (12 : Nat), (13 : Nat))]) ∈ pT := List.mem_filter.mpr ⟨(tb_5 (List.mem_of_getElem? (i := 126) rfl)), by decide +kernel⟩
set_option maxRecDepth 100000 in
theorem w_1451 : (Jvm.Cond.methodLink "ScarArmyLaw" (80 : Nat) ({ cls := "ScarArmy", name := "enemies", desc := "(I)I" } : Jvm.MethodName)) ∈ pT := List.mem_filter.mpr ⟨(tb_5 (List.mem_of_getElem? (i := 127) rfl)), by decide +kernel⟩
set_option maxRecDepth 100000 in
theorem w_1452 : (Jvm.Cond.instanceMethod ({ cls := "ScarArmy", name := "enemies", desc := "(I)I" } : Jvm.MethodName)) ∈ pT := List.mem_filter.mpr ⟨(tb_5 (List.mem_of_getElem? (i := 128) rfl)), by decide +kernel⟩
set_option maxRecDepth 100000 in
theorem w_1453 : (Jvm.Cond.selects "ScarArmy" ({ cls := "ScarArmy", name := "enemies", desc := "(I)I" } : Jvm.MethodName) ({ cls := "ScarArmy", name := "enemies", desc := "(I)I" } : Jvm.MethodName)) ∈ pT := List.mem_filter.mpr ⟨(tb_5 (List.mem_of_getElem? (i := 129) rfl)), by decide +kernel⟩
set_option maxRecDepth 100000 in
theorem w_1479 : (Jvm.Cond.methodLink "ScarArmyLaw" (213 : Nat) ({ cls := "ScarArmyLaw", name := "turn", desc := "(LScarArmy;IIII[J)I" } : Jvm.MethodName)) ∈ pT := List.mem_filter.mpr ⟨(tb_5 (List.mem_of_getElem? (i := 155) rfl)), by decide +kernel⟩
set_option maxRecDepth 100000 in
theorem w_1480 : (Jvm.Cond.static ({ cls := "ScarArmyLaw", name := "turn", desc := "(LScarArmy;IIII[J)I" } : Jvm.MethodName)) ∈ pT := List.mem_filter.mpr ⟨(tb_5 (List.mem_of_getElem? (i := 156) rfl)), by decide +kernel⟩
set_option maxRecDepth 100000 in
theorem w_1481 : (Jvm.Cond.codeWith ({ cls := "ScarArmyLaw", name := "turn", desc := "(LScarArmy;IIII[J)I" } : Jvm.MethodName) method_22_code (7 : Nat) (Option.some Jvm.ClassFile.FieldType.int) [((0 : Nat), (14 : Nat), (17 : Nat), (24 : Nat)), ((0 : Nat), (14 : Nat), (21 : Nat), (13 : Nat))]) ∈ pT := List.mem_filter.mpr ⟨(tb_5 (List.mem_of_getElem? (i := 157) rfl)), by decide +kernel⟩
set_option maxRecDepth 100000 in
theorem w_1482 : (Jvm.Cond.methodLink "ScarArmyLaw" (83 : Nat) ({ cls := "ScarArmy", name := "turn", desc := "(IIII)I" } : Jvm.MethodName)) ∈ pT := List.mem_filter.mpr ⟨(tb_5 (List.mem_of_getElem? (i := 158) rfl)), by decide +kernel⟩
set_option maxRecDepth 100000 in
theorem w_1483 : (Jvm.Cond.instanceMethod ({ cls := "ScarArmy", name := "turn", desc := "(IIII)I" } : Jvm.MethodName)) ∈ pT := List.mem_filter.mpr ⟨(tb_5 (List.mem_of_getElem? (i := 159) rfl)), by decide +kernel⟩
set_option maxRecDepth 100000 in
theorem w_1484 : (Jvm.Cond.selects "ScarArmy" ({ cls := "ScarArmy", name := "turn", desc := "(IIII)I" } : Jvm.MethodName) ({ cls := "ScarArmy", name := "turn", desc := "(IIII)I" } : Jvm.MethodName)) ∈ pT := List.mem_filter.mpr ⟨(tb_5 (List.mem_of_getElem? (i := 160) rfl)), by decide +kernel⟩
set_option maxRecDepth 100000 in
theorem w_1498 : (Jvm.Cond.methodLink "ScarArmyLaw" (217 : Nat) ({ cls := "ScarArmyLaw", name := "polished", desc := "(LScarArmy;I[J)I" } : Jvm.MethodName)) ∈ pT := List.mem_filter.mpr ⟨(tb_5 (List.mem_of_getElem? (i := 174) rfl)), by decide +kernel⟩
set_option maxRecDepth 100000 in
theorem w_1499 : (Jvm.Cond.static ({ cls := "ScarArmyLaw", name := "polished", desc := "(LScarArmy;I[J)I" } : Jvm.MethodName)) ∈ pT := List.mem_filter.mpr ⟨(tb_5 (List.mem_of_getElem? (i := 175) rfl)), by decide +kernel⟩
set_option maxRecDepth 100000 in
theorem w_1500 : (Jvm.Cond.codeWith ({ cls := "ScarArmyLaw", name := "polished", desc := "(LScarArmy;I[J)I" } : Jvm.MethodName) method_23_code (4 : Nat) (Option.some Jvm.ClassFile.FieldType.int) [((0 : Nat), (9 : Nat), (12 : Nat), (24 : Nat))]) ∈ pT := List.mem_filter.mpr ⟨(tb_5 (List.mem_of_getElem? (i := 176) rfl)), by decide +kernel⟩
set_option maxRecDepth 100000 in
theorem w_1501 : (Jvm.Cond.methodLink "ScarArmyLaw" (87 : Nat) ({ cls := "ScarArmy", name := "polished", desc := "(I)I" } : Jvm.MethodName)) ∈ pT := List.mem_filter.mpr ⟨(tb_5 (List.mem_of_getElem? (i := 177) rfl)), by decide +kernel⟩
set_option maxRecDepth 100000 in
theorem w_1502 : (Jvm.Cond.instanceMethod ({ cls := "ScarArmy", name := "polished", desc := "(I)I" } : Jvm.MethodName)) ∈ pT := List.mem_filter.mpr ⟨(tb_5 (List.mem_of_getElem? (i := 178) rfl)), by decide +kernel⟩
set_option maxRecDepth 100000 in
theorem w_1503 : (Jvm.Cond.selects "ScarArmy" ({ cls := "ScarArmy", name := "polished", desc := "(I)I" } : Jvm.MethodName) ({ cls := "ScarArmy", name := "polished", desc := "(I)I" } : Jvm.MethodName)) ∈ pT := List.mem_filter.mpr ⟨(tb_5 (List.mem_of_getElem? (i := 179) rfl)), by decide +kernel⟩
set_option maxRecDepth 100000 in
theorem w_1509 : (Jvm.Cond.methodLink "ScarArmyLaw" (225 : Nat) ({ cls := "ScarArmyLaw", name := "hands", desc := "(LScarArmy;II[J)I" } : Jvm.MethodName)) ∈ pT := List.mem_filter.mpr ⟨(tb_5 (List.mem_of_getElem? (i := 185) rfl)), by decide +kernel⟩
set_option maxRecDepth 100000 in
theorem w_1510 : (Jvm.Cond.static ({ cls := "ScarArmyLaw", name := "hands", desc := "(LScarArmy;II[J)I" } : Jvm.MethodName)) ∈ pT := List.mem_filter.mpr ⟨(tb_5 (List.mem_of_getElem? (i := 186) rfl)), by decide +kernel⟩
set_option maxRecDepth 100000 in
theorem w_1511 : (Jvm.Cond.codeWith ({ cls := "ScarArmyLaw", name := "hands", desc := "(LScarArmy;II[J)I" } : Jvm.MethodName) method_24_code (5 : Nat) (Option.some Jvm.ClassFile.FieldType.int) [((0 : Nat), (10 : Nat), (13 : Nat), (24 : Nat)), ((0 : Nat), (10 : Nat), (17 : Nat), (13 : Nat))]) ∈ pT := List.mem_filter.mpr ⟨(tb_5 (List.mem_of_getElem? (i := 187) rfl)), by decide +kernel⟩
set_option maxRecDepth 100000 in
theorem w_1512 : (Jvm.Cond.methodLink "ScarArmyLaw" (90 : Nat) ({ cls := "ScarArmy", name := "hands", desc := "(II)I" } : Jvm.MethodName)) ∈ pT := List.mem_filter.mpr ⟨(tb_5 (List.mem_of_getElem? (i := 188) rfl)), by decide +kernel⟩
set_option maxRecDepth 100000 in
theorem w_1513 : (Jvm.Cond.instanceMethod ({ cls := "ScarArmy", name := "hands", desc := "(II)I" } : Jvm.MethodName)) ∈ pT := List.mem_filter.mpr ⟨(tb_5 (List.mem_of_getElem? (i := 189) rfl)), by decide +kernel⟩
set_option maxRecDepth 100000 in
theorem w_1514 : (Jvm.Cond.selects "ScarArmy" ({ cls := "ScarArmy", name := "hands", desc := "(II)I" } : Jvm.MethodName) ({ cls := "ScarArmy", name := "hands", desc := "(II)I" } : Jvm.MethodName)) ∈ pT := List.mem_filter.mpr ⟨(tb_5 (List.mem_of_getElem? (i := 190) rfl)), by decide +kernel⟩
set_option maxRecDepth 100000 in
theorem w_1525 : (Jvm.Cond.methodLink "ScarArmyLaw" (232 : Nat) ({ cls := "ScarArmyLaw", name := "after", desc := "(LScarArmy;II[J)I" } : Jvm.MethodName)) ∈ pT := List.mem_filter.mpr ⟨(tb_5 (List.mem_of_getElem? (i := 201) rfl)), by decide +kernel⟩
set_option maxRecDepth 100000 in
theorem w_1526 : (Jvm.Cond.static ({ cls := "ScarArmyLaw", name := "after", desc := "(LScarArmy;II[J)I" } : Jvm.MethodName)) ∈ pT := List.mem_filter.mpr ⟨(tb_5 (List.mem_of_getElem? (i := 202) rfl)), by decide +kernel⟩
set_option maxRecDepth 100000 in
theorem w_1527 : (Jvm.Cond.codeWith ({ cls := "ScarArmyLaw", name := "after", desc := "(LScarArmy;II[J)I" } : Jvm.MethodName) method_25_code (5 : Nat) (Option.some Jvm.ClassFile.FieldType.int) [((0 : Nat), (10 : Nat), (13 : Nat), (24 : Nat)), ((0 : Nat), (10 : Nat), (17 : Nat), (13 : Nat))]) ∈ pT := List.mem_filter.mpr ⟨(tb_5 (List.mem_of_getElem? (i := 203) rfl)), by decide +kernel⟩
set_option maxRecDepth 100000 in
theorem w_1528 : (Jvm.Cond.methodLink "ScarArmyLaw" (93 : Nat) ({ cls := "ScarArmy", name := "after", desc := "(II)I" } : Jvm.MethodName)) ∈ pT := List.mem_filter.mpr ⟨(tb_5 (List.mem_of_getElem? (i := 204) rfl)), by decide +kernel⟩
set_option maxRecDepth 100000 in
theorem w_1529 : (Jvm.Cond.instanceMethod ({ cls := "ScarArmy", name := "after", desc := "(II)I" } : Jvm.MethodName)) ∈ pT := List.mem_filter.mpr ⟨(tb_5 (List.mem_of_getElem? (i := 205) rfl)), by decide +kernel⟩
set_option maxRecDepth 100000 in
theorem w_1530 : (Jvm.Cond.selects "ScarArmy" ({ cls := "ScarArmy", name := "after", desc := "(II)I" } : Jvm.MethodName) ({ cls := "ScarArmy", name := "after", desc := "(II)I" } : Jvm.MethodName)) ∈ pT := List.mem_filter.mpr ⟨(tb_5 (List.mem_of_getElem? (i := 206) rfl)), by decide +kernel⟩
set_option maxRecDepth 100000 in
theorem w_1532 : (Jvm.Cond.methodLink "ScarArmyLaw" (235 : Nat) ({ cls := "ScarArmyLaw", name := "shared", desc := "(LScarArmy;II[J)I" } : Jvm.MethodName)) ∈ pT := List.mem_filter.mpr ⟨(tb_5 (List.mem_of_getElem? (i := 208) rfl)), by decide +kernel⟩
set_option maxRecDepth 100000 in
theorem w_1533 : (Jvm.Cond.static ({ cls := "ScarArmyLaw", name := "shared", desc := "(LScarArmy;II[J)I" } : Jvm.MethodName)) ∈ pT := List.mem_filter.mpr ⟨(tb_5 (List.mem_of_getElem? (i := 209) rfl)), by decide +kernel⟩
set_option maxRecDepth 100000 in
theorem w_1534 : (Jvm.Cond.codeWith ({ cls := "ScarArmyLaw", name := "shared", desc := "(LScarArmy;II[J)I" } : Jvm.MethodName) method_26_code (5 : Nat) (Option.some Jvm.ClassFile.FieldType.int) [((0 : Nat), (10 : Nat), (13 : Nat), (24 : Nat)), ((0 : Nat), (10 : Nat), (17 : Nat), (13 : Nat))]) ∈ pT := List.mem_filter.mpr ⟨(tb_5 (List.mem_of_getElem? (i := 210) rfl)), by decide +kernel⟩
set_option maxRecDepth 100000 in
theorem w_1535 : (Jvm.Cond.methodLink "ScarArmyLaw" (96 : Nat) ({ cls := "ScarArmy", name := "shared", desc := "(II)I" } : Jvm.MethodName)) ∈ pT := List.mem_filter.mpr ⟨(tb_5 (List.mem_of_getElem? (i := 211) rfl)), by decide +kernel⟩
set_option maxRecDepth 100000 in
theorem w_1536 : (Jvm.Cond.instanceMethod ({ cls := "ScarArmy", name := "shared", desc := "(II)I" } : Jvm.MethodName)) ∈ pT := List.mem_filter.mpr ⟨(tb_5 (List.mem_of_getElem? (i := 212) rfl)), by decide +kernel⟩
set_option maxRecDepth 100000 in
theorem w_1537 : (Jvm.Cond.selects "ScarArmy" ({ cls := "ScarArmy", name := "shared", desc := "(II)I" } : Jvm.MethodName) ({ cls := "ScarArmy", name := "shared", desc := "(II)I" } : Jvm.MethodName)) ∈ pT := List.mem_filter.mpr ⟨(tb_5 (List.mem_of_getElem? (i := 213) rfl)), by decide +kernel⟩
set_option maxRecDepth 100000 in
theorem w_1543 : (Jvm.Cond.methodLink "ScarArmyLaw" (258 : Nat) ({ cls := "ScarArmyLaw", name := "trial", desc := "(LScarArmy;IZ[J)I" } : Jvm.MethodName)) ∈ pT := List.mem_filter.mpr ⟨(tb_5 (List.mem_of_getElem? (i := 219) rfl)), by decide +kernel⟩
set_option maxRecDepth 100000 in
theorem w_1544 : (Jvm.Cond.static ({ cls := "ScarArmyLaw", name := "trial", desc := "(LScarArmy;IZ[J)I" } : Jvm.MethodName)) ∈ pT := List.mem_filter.mpr ⟨(tb_5 (List.mem_of_getElem? (i := 220) rfl)), by decide +kernel⟩
set_option maxRecDepth 100000 in
theorem w_1545 : (Jvm.Cond.codeWith ({ cls := "ScarArmyLaw", name := "trial", desc := "(LScarArmy;IZ[J)I" } : Jvm.MethodName) method_27_code (5 : Nat) (Option.some Jvm.ClassFile.FieldType.int) [((0 : Nat), (10 : Nat), (13 : Nat), (13 : Nat))]) ∈ pT := List.mem_filter.mpr ⟨(tb_5 (List.mem_of_getElem? (i := 221) rfl)), by decide +kernel⟩
set_option maxRecDepth 100000 in
theorem w_1546 : (Jvm.Cond.methodLink "ScarArmyLaw" (99 : Nat) ({ cls := "ScarArmy", name := "trial", desc := "(IZ)I" } : Jvm.MethodName)) ∈ pT := List.mem_filter.mpr ⟨(tb_5 (List.mem_of_getElem? (i := 222) rfl)), by decide +kernel⟩
set_option maxRecDepth 100000 in
theorem w_1547 : (Jvm.Cond.instanceMethod ({ cls := "ScarArmy", name := "trial", desc := "(IZ)I" } : Jvm.MethodName)) ∈ pT := List.mem_filter.mpr ⟨(tb_5 (List.mem_of_getElem? (i := 223) rfl)), by decide +kernel⟩
set_option maxRecDepth 100000 in
theorem w_1548 : (Jvm.Cond.selects "ScarArmy" ({ cls := "ScarArmy", name := "trial", desc := "(IZ)I" } : Jvm.MethodName) ({ cls := "ScarArmy", name := "trial", desc := "(IZ)I" } : Jvm.MethodName)) ∈ pT := List.mem_filter.mpr ⟨(tb_5 (List.mem_of_getElem? (i := 224) rfl)), by decide +kernel⟩
set_option maxRecDepth 100000 in
theorem w_1550 : (Jvm.Cond.methodLink "ScarArmyLaw" (261 : Nat) ({ cls := "ScarArmyLaw", name := "span", desc := "(LScarArmy;IZ[J)I" } : Jvm.MethodName)) ∈ pT := List.mem_filter.mpr ⟨(tb_5 (List.mem_of_getElem? (i := 226) rfl)), by decide +kernel⟩
set_option maxRecDepth 100000 in
theorem w_1551 : (Jvm.Cond.static ({ cls := "ScarArmyLaw", name := "span", desc := "(LScarArmy;IZ[J)I" } : Jvm.MethodName)) ∈ pT := List.mem_filter.mpr ⟨(tb_5 (List.mem_of_getElem? (i := 227) rfl)), by decide +kernel⟩
set_option maxRecDepth 100000 in
theorem w_1552 : (Jvm.Cond.codeWith ({ cls := "ScarArmyLaw", name := "span", desc := "(LScarArmy;IZ[J)I" } : Jvm.MethodName) method_28_code (5 : Nat) (Option.some Jvm.ClassFile.FieldType.int) [((0 : Nat), (10 : Nat), (13 : Nat), (13 : Nat))]) ∈ pT := List.mem_filter.mpr ⟨(tb_5 (List.mem_of_getElem? (i := 228) rfl)), by decide +kernel⟩
set_option maxRecDepth 100000 in
theorem w_1553 : (Jvm.Cond.methodLink "ScarArmyLaw" (102 : Nat) ({ cls := "ScarArmy", name := "span", desc := "(IZ)I" } : Jvm.MethodName)) ∈ pT := List.mem_filter.mpr ⟨(tb_5 (List.mem_of_getElem? (i := 229) rfl)), by decide +kernel⟩
set_option maxRecDepth 100000 in
theorem w_1554 : (Jvm.Cond.instanceMethod ({ cls := "ScarArmy", name := "span", desc := "(IZ)I" } : Jvm.MethodName)) ∈ pT := List.mem_filter.mpr ⟨(tb_5 (List.mem_of_getElem? (i := 230) rfl)), by decide +kernel⟩
set_option maxRecDepth 100000 in
theorem w_1555 : (Jvm.Cond.selects "ScarArmy" ({ cls := "ScarArmy", name := "span", desc := "(IZ)I" } : Jvm.MethodName) ({ cls := "ScarArmy", name := "span", desc := "(IZ)I" } : Jvm.MethodName)) ∈ pT := List.mem_filter.mpr ⟨(tb_5 (List.mem_of_getElem? (i := 231) rfl)), by decide +kernel⟩
set_option maxRecDepth 100000 in
theorem w_1559 : (Jvm.Cond.methodLink "ScarArmyLaw" (264 : Nat) ({ cls := "ScarArmyLaw", name := "led", desc := "(LScarArmy;IZ[J)I" } : Jvm.MethodName)) ∈ pT := List.mem_filter.mpr ⟨(tb_5 (List.mem_of_getElem? (i := 235) rfl)), by decide +kernel⟩
set_option maxRecDepth 100000 in
theorem w_1560 : (Jvm.Cond.static ({ cls := "ScarArmyLaw", name := "led", desc := "(LScarArmy;IZ[J)I" } : Jvm.MethodName)) ∈ pT := List.mem_filter.mpr ⟨(tb_5 (List.mem_of_getElem? (i := 236) rfl)), by decide +kernel⟩
set_option maxRecDepth 100000 in
theorem w_1561 : (Jvm.Cond.codeWith ({ cls := "ScarArmyLaw", name := "led", desc := "(LScarArmy;IZ[J)I" } : Jvm.MethodName) method_29_code (5 : Nat) (Option.some Jvm.ClassFile.FieldType.int) [((0 : Nat), (10 : Nat), (13 : Nat), (24 : Nat))]) ∈ pT := List.mem_filter.mpr ⟨(tb_5 (List.mem_of_getElem? (i := 237) rfl)), by decide +kernel⟩
set_option maxRecDepth 100000 in
theorem w_1562 : (Jvm.Cond.methodLink "ScarArmyLaw" (105 : Nat) ({ cls := "ScarArmy", name := "led", desc := "(IZ)I" } : Jvm.MethodName)) ∈ pT := List.mem_filter.mpr ⟨(tb_5 (List.mem_of_getElem? (i := 238) rfl)), by decide +kernel⟩
set_option maxRecDepth 100000 in
theorem w_1563 : (Jvm.Cond.instanceMethod ({ cls := "ScarArmy", name := "led", desc := "(IZ)I" } : Jvm.MethodName)) ∈ pT := List.mem_filter.mpr ⟨(tb_5 (List.mem_of_getElem? (i := 239) rfl)), by decide +kernel⟩
set_option maxRecDepth 100000 in
theorem w_1564 : (Jvm.Cond.selects "ScarArmy" ({ cls := "ScarArmy", name := "led", desc := "(IZ)I" } : Jvm.MethodName) ({ cls := "ScarArmy", name := "led", desc := "(IZ)I" } : Jvm.MethodName)) ∈ pT := List.mem_filter.mpr ⟨(tb_6 (List.mem_of_getElem? (i := 0) rfl)), by decide +kernel⟩
set_option maxRecDepth 100000 in
theorem w_1567 : (Jvm.Cond.methodLink "ScarArmyLaw" (267 : Nat) ({ cls := "ScarArmyLaw", name := "log", desc := "(LScarArmy;II[J)I" } : Jvm.MethodName)) ∈ pT := List.mem_filter.mpr ⟨(tb_6 (List.mem_of_getElem? (i := 3) rfl)), by decide +kernel⟩
set_option maxRecDepth 100000 in
theorem w_1568 : (Jvm.Cond.static ({ cls := "ScarArmyLaw", name := "log", desc := "(LScarArmy;II[J)I" } : Jvm.MethodName)) ∈ pT := List.mem_filter.mpr ⟨(tb_6 (List.mem_of_getElem? (i := 4) rfl)), by decide +kernel⟩
set_option maxRecDepth 100000 in
theorem w_1569 : (Jvm.Cond.codeWith ({ cls := "ScarArmyLaw", name := "log", desc := "(LScarArmy;II[J)I" } : Jvm.MethodName) method_30_code (5 : Nat) (Option.some Jvm.ClassFile.FieldType.int) [((0 : Nat), (10 : Nat), (13 : Nat), (26 : Nat))]) ∈ pT := List.mem_filter.mpr ⟨(tb_6 (List.mem_of_getElem? (i := 5) rfl)), by decide +kernel⟩
set_option maxRecDepth 100000 in
theorem w_1570 : (Jvm.Cond.methodLink "ScarArmyLaw" (108 : Nat) ({ cls := "ScarArmy", name := "log", desc := "(II)I" } : Jvm.MethodName)) ∈ pT := List.mem_filter.mpr ⟨(tb_6 (List.mem_of_getElem? (i := 6) rfl)), by decide +kernel⟩
set_option maxRecDepth 100000 in
theorem w_1571 : (Jvm.Cond.instanceMethod ({ cls := "ScarArmy", name := "log", desc := "(II)I" } : Jvm.MethodName)) ∈ pT := List.mem_filter.mpr ⟨(tb_6 (List.mem_of_getElem? (i := 7) rfl)), by decide +kernel⟩
set_option maxRecDepth 100000 in
theorem w_1572 : (Jvm.Cond.selects "ScarArmy" ({ cls := "ScarArmy", name := "log", desc := "(II)I" } : Jvm.MethodName) ({ cls := "ScarArmy", name := "log", desc := "(II)I" } : Jvm.MethodName)) ∈ pT := List.mem_filter.mpr ⟨(tb_6 (List.mem_of_getElem? (i := 8) rfl)), by decide +kernel⟩
set_option maxRecDepth 100000 in
theorem w_1576 : (Jvm.Cond.methodLink "ScarArmyLaw" (130 : Nat) ({ cls := "ScarArmyModel", name := "thrown", desc := "()I" } : Jvm.MethodName)) ∈ pT := List.mem_filter.mpr ⟨(tb_6 (List.mem_of_getElem? (i := 12) rfl)), by decide +kernel⟩
set_option maxRecDepth 100000 in
theorem w_1577 : (Jvm.Cond.instanceMethod ({ cls := "ScarArmyModel", name := "thrown", desc := "()I" } : Jvm.MethodName)) ∈ pT := List.mem_filter.mpr ⟨(tb_6 (List.mem_of_getElem? (i := 13) rfl)), by decide +kernel⟩
set_option maxRecDepth 100000 in
theorem w_1578 : (Jvm.Cond.selects "ScarArmyModel" ({ cls := "ScarArmyModel", name := "thrown", desc := "()I" } : Jvm.MethodName) ({ cls := "ScarArmyModel", name := "thrown", desc := "()I" } : Jvm.MethodName)) ∈ pT := List.mem_filter.mpr ⟨(tb_6 (List.mem_of_getElem? (i := 14) rfl)), by decide +kernel⟩
set_option maxRecDepth 100000 in
theorem w_1580 : (Jvm.Cond.classLink "ScarArmyLaw" (112 : Nat) "ScarArmyModel") ∈ pT := List.mem_filter.mpr ⟨(tb_6 (List.mem_of_getElem? (i := 16) rfl)), by decide +kernel⟩
set_option maxRecDepth 100000 in
theorem w_1581 : (Jvm.Cond.instantiable "ScarArmyModel" (23 : Nat)) ∈ pT := List.mem_filter.mpr ⟨(tb_6 (List.mem_of_getElem? (i := 17) rfl)), by decide +kernel⟩
set_option maxRecDepth 100000 in
theorem w_1582 : (Jvm.Cond.methodLink "ScarArmyLaw" (114 : Nat) ({ cls := "ScarArmyModel", name := "<init>", desc := "()V" } : Jvm.MethodName)) ∈ pT := List.mem_filter.mpr ⟨(tb_6 (List.mem_of_getElem? (i := 18) rfl)), by decide +kernel⟩
set_option maxRecDepth 100000 in
theorem w_1583 : (Jvm.Cond.instanceMethod ({ cls := "ScarArmyModel", name := "<init>", desc := "()V" } : Jvm.MethodName)) ∈ pT := List.mem_filter.mpr ⟨(tb_6 (List.mem_of_getElem? (i := 19) rfl)), by decide +kernel⟩
set_option maxRecDepth 100000 in
theorem w_1656 : (Jvm.Cond.methodLink "ScarArmyLaw" (282 : Nat) ({ cls := "ScarArmyModel", name := "image", desc := "()V" } : Jvm.MethodName)) ∈ pT := List.mem_filter.mpr ⟨(tb_6 (List.mem_of_getElem? (i := 92) rfl)), by decide +kernel⟩
set_option maxRecDepth 100000 in
theorem w_1657 : (Jvm.Cond.instanceMethod ({ cls := "ScarArmyModel", name := "image", desc := "()V" } : Jvm.MethodName)) ∈ pT := List.mem_filter.mpr ⟨(tb_6 (List.mem_of_getElem? (i := 93) rfl)), by decide +kernel⟩
set_option maxRecDepth 100000 in
theorem w_1658 : (Jvm.Cond.selects "ScarArmyModel" ({ cls := "ScarArmyModel", name := "image", desc := "()V" } : Jvm.MethodName) ({ cls := "ScarArmyModel", name := "image", desc := "()V" } : Jvm.MethodName)) ∈ pT := List.mem_filter.mpr ⟨(tb_6 (List.mem_of_getElem? (i := 94) rfl)), by decide +kernel⟩
set_option maxRecDepth 100000 in
theorem w_1660 : (Jvm.Cond.methodLink "ScarArmyLaw" (286 : Nat) ({ cls := "ScarArmyModel", name := "back", desc := "()Z" } : Jvm.MethodName)) ∈ pT := List.mem_filter.mpr ⟨(tb_6 (List.mem_of_getElem? (i := 96) rfl)), by decide +kernel⟩
set_option maxRecDepth 100000 in
theorem w_1661 : (Jvm.Cond.instanceMethod ({ cls := "ScarArmyModel", name := "back", desc := "()Z" } : Jvm.MethodName)) ∈ pT := List.mem_filter.mpr ⟨(tb_6 (List.mem_of_getElem? (i := 97) rfl)), by decide +kernel⟩
set_option maxRecDepth 100000 in
theorem w_1662 : (Jvm.Cond.selects "ScarArmyModel" ({ cls := "ScarArmyModel", name := "back", desc := "()Z" } : Jvm.MethodName) ({ cls := "ScarArmyModel", name := "back", desc := "()Z" } : Jvm.MethodName)) ∈ pT := List.mem_filter.mpr ⟨(tb_6 (List.mem_of_getElem? (i := 98) rfl)), by decide +kernel⟩
set_option maxRecDepth 100000 in
theorem w_1664 : (Jvm.Cond.methodLink "ScarArmyLaw" (278 : Nat) ({ cls := "ScarArmyModel", name := "undo", desc := "()Z" } : Jvm.MethodName)) ∈ pT := List.mem_filter.mpr ⟨(tb_6 (List.mem_of_getElem? (i := 100) rfl)), by decide +kernel⟩
set_option maxRecDepth 100000 in
theorem w_1665 : (Jvm.Cond.instanceMethod ({ cls := "ScarArmyModel", name := "undo", desc := "()Z" } : Jvm.MethodName)) ∈ pT := List.mem_filter.mpr ⟨(tb_6 (List.mem_of_getElem? (i := 101) rfl)), by decide +kernel⟩
set_option maxRecDepth 100000 in
theorem w_1666 : (Jvm.Cond.selects "ScarArmyModel" ({ cls := "ScarArmyModel", name := "undo", desc := "()Z" } : Jvm.MethodName) ({ cls := "ScarArmyModel", name := "undo", desc := "()Z" } : Jvm.MethodName)) ∈ pT := List.mem_filter.mpr ⟨(tb_6 (List.mem_of_getElem? (i := 102) rfl)), by decide +kernel⟩
set_option maxRecDepth 100000 in
theorem w_1668 : (Jvm.Cond.methodLink "ScarArmyLaw" (118 : Nat) ({ cls := "ScarArmyModel", name := "feed", desc := "(IIIII)I" } : Jvm.MethodName)) ∈ pT := List.mem_filter.mpr ⟨(tb_6 (List.mem_of_getElem? (i := 104) rfl)), by decide +kernel⟩
set_option maxRecDepth 100000 in
theorem w_1669 : (Jvm.Cond.instanceMethod ({ cls := "ScarArmyModel", name := "feed", desc := "(IIIII)I" } : Jvm.MethodName)) ∈ pT := List.mem_filter.mpr ⟨(tb_6 (List.mem_of_getElem? (i := 105) rfl)), by decide +kernel⟩
set_option maxRecDepth 100000 in
theorem w_1670 : (Jvm.Cond.selects "ScarArmyModel" ({ cls := "ScarArmyModel", name := "feed", desc := "(IIIII)I" } : Jvm.MethodName) ({ cls := "ScarArmyModel", name := "feed", desc := "(IIIII)I" } : Jvm.MethodName)) ∈ pT := List.mem_filter.mpr ⟨(tb_6 (List.mem_of_getElem? (i := 106) rfl)), by decide +kernel⟩
set_option maxRecDepth 100000 in
theorem w_1672 : (Jvm.Cond.methodLink "ScarArmyLaw" (123 : Nat) ({ cls := "ScarArmyModel", name := "end", desc := "(I)Z" } : Jvm.MethodName)) ∈ pT := List.mem_filter.mpr ⟨(tb_6 (List.mem_of_getElem? (i := 108) rfl)), by decide +kernel⟩
set_option maxRecDepth 100000 in
theorem w_1673 : (Jvm.Cond.instanceMethod ({ cls := "ScarArmyModel", name := "end", desc := "(I)Z" } : Jvm.MethodName)) ∈ pT := List.mem_filter.mpr ⟨(tb_6 (List.mem_of_getElem? (i := 109) rfl)), by decide +kernel⟩
set_option maxRecDepth 100000 in
theorem w_1674 : (Jvm.Cond.selects "ScarArmyModel" ({ cls := "ScarArmyModel", name := "end", desc := "(I)Z" } : Jvm.MethodName) ({ cls := "ScarArmyModel", name := "end", desc := "(I)Z" } : Jvm.MethodName)) ∈ pT := List.mem_filter.mpr ⟨(tb_6 (List.mem_of_getElem? (i := 110) rfl)), by decide +kernel⟩
set_option maxRecDepth 100000 in
theorem w_1676 : (Jvm.Cond.methodLink "ScarArmyLaw" (139 : Nat) ({ cls := "ScarArmyModel", name := "fault", desc := "()I" } : Jvm.MethodName)) ∈ pT := List.mem_filter.mpr ⟨(tb_6 (List.mem_of_getElem? (i := 112) rfl)), by decide +kernel⟩
set_option maxRecDepth 100000 in
theorem w_1677 : (Jvm.Cond.instanceMethod ({ cls := "ScarArmyModel", name := "fault", desc := "()I" } : Jvm.MethodName)) ∈ pT := List.mem_filter.mpr ⟨(tb_6 (List.mem_of_getElem? (i := 113) rfl)), by decide +kernel⟩
set_option maxRecDepth 100000 in
theorem w_1678 : (Jvm.Cond.selects "ScarArmyModel" ({ cls := "ScarArmyModel", name := "fault", desc := "()I" } : Jvm.MethodName) ({ cls := "ScarArmyModel", name := "fault", desc := "()I" } : Jvm.MethodName)) ∈ pT := List.mem_filter.mpr ⟨(tb_6 (List.mem_of_getElem? (i := 114) rfl)), by decide +kernel⟩
set_option maxRecDepth 100000 in
theorem w_1680 : (Jvm.Cond.methodLink "ScarArmyLaw" (129 : Nat) ({ cls := "ScarArmyModel", name := "army", desc := "()I" } : Jvm.MethodName)) ∈ pT := List.mem_filter.mpr ⟨(tb_6 (List.mem_of_getElem? (i := 116) rfl)), by decide +kernel⟩
set_option maxRecDepth 100000 in
theorem w_1681 : (Jvm.Cond.instanceMethod ({ cls := "ScarArmyModel", name := "army", desc := "()I" } : Jvm.MethodName)) ∈ pT := List.mem_filter.mpr ⟨(tb_6 (List.mem_of_getElem? (i := 117) rfl)), by decide +kernel⟩
set_option maxRecDepth 100000 in
theorem w_1682 : (Jvm.Cond.selects "ScarArmyModel" ({ cls := "ScarArmyModel", name := "army", desc := "()I" } : Jvm.MethodName) ({ cls := "ScarArmyModel", name := "army", desc := "()I" } : Jvm.MethodName)) ∈ pT := List.mem_filter.mpr ⟨(tb_6 (List.mem_of_getElem? (i := 118) rfl)), by decide +kernel⟩
set_option maxRecDepth 100000 in
theorem w_1851 : (Jvm.Cond.methodLink "ScarArmyLaw" (135 : Nat) ({ cls := "ScarArmyModel", name := "law", desc := "()I" } : Jvm.MethodName)) ∈ pT := List.mem_filter.mpr ⟨(tb_7 (List.mem_of_getElem? (i := 47) rfl)), by decide +kernel⟩
set_option maxRecDepth 100000 in
theorem w_1852 : (Jvm.Cond.instanceMethod ({ cls := "ScarArmyModel", name := "law", desc := "()I" } : Jvm.MethodName)) ∈ pT := List.mem_filter.mpr ⟨(tb_7 (List.mem_of_getElem? (i := 48) rfl)), by decide +kernel⟩
set_option maxRecDepth 100000 in
theorem w_1853 : (Jvm.Cond.selects "ScarArmyModel" ({ cls := "ScarArmyModel", name := "law", desc := "()I" } : Jvm.MethodName) ({ cls := "ScarArmyModel", name := "law", desc := "()I" } : Jvm.MethodName)) ∈ pT := List.mem_filter.mpr ⟨(tb_7 (List.mem_of_getElem? (i := 49) rfl)), by decide +kernel⟩
set_option maxRecDepth 100000 in
theorem w_1855 : (Jvm.Cond.methodLink "ScarArmyLaw" (143 : Nat) ({ cls := "ScarArmyModel", name := "battle", desc := "(II)I" } : Jvm.MethodName)) ∈ pT := List.mem_filter.mpr ⟨(tb_7 (List.mem_of_getElem? (i := 51) rfl)), by decide +kernel⟩
set_option maxRecDepth 100000 in
theorem w_1856 : (Jvm.Cond.instanceMethod ({ cls := "ScarArmyModel", name := "battle", desc := "(II)I" } : Jvm.MethodName)) ∈ pT := List.mem_filter.mpr ⟨(tb_7 (List.mem_of_getElem? (i := 52) rfl)), by decide +kernel⟩
set_option maxRecDepth 100000 in
theorem w_1857 : (Jvm.Cond.selects "ScarArmyModel" ({ cls := "ScarArmyModel", name := "battle", desc := "(II)I" } : Jvm.MethodName) ({ cls := "ScarArmyModel", name := "battle", desc := "(II)I" } : Jvm.MethodName)) ∈ pT := List.mem_filter.mpr ⟨(tb_7 (List.mem_of_getElem? (i := 53) rfl)), by decide +kernel⟩
set_option maxRecDepth 100000 in
theorem w_1925 : (Jvm.Cond.methodLink "ScarArmyLaw" (146 : Nat) ({ cls := "ScarArmyModel", name := "man", desc := "(II)I" } : Jvm.MethodName)) ∈ pT := List.mem_filter.mpr ⟨(tb_7 (List.mem_of_getElem? (i := 121) rfl)), by decide +kernel⟩
set_option maxRecDepth 100000 in
theorem w_1926 : (Jvm.Cond.instanceMethod ({ cls := "ScarArmyModel", name := "man", desc := "(II)I" } : Jvm.MethodName)) ∈ pT := List.mem_filter.mpr ⟨(tb_7 (List.mem_of_getElem? (i := 122) rfl)), by decide +kernel⟩
set_option maxRecDepth 100000 in
theorem w_1927 : (Jvm.Cond.selects "ScarArmyModel" ({ cls := "ScarArmyModel", name := "man", desc := "(II)I" } : Jvm.MethodName) ({ cls := "ScarArmyModel", name := "man", desc := "(II)I" } : Jvm.MethodName)) ∈ pT := List.mem_filter.mpr ⟨(tb_7 (List.mem_of_getElem? (i := 123) rfl)), by decide +kernel⟩
set_option maxRecDepth 100000 in
theorem w_1977 : (Jvm.Cond.methodLink "ScarArmyLaw" (149 : Nat) ({ cls := "ScarArmyModel", name := "scar", desc := "(II)I" } : Jvm.MethodName)) ∈ pT := List.mem_filter.mpr ⟨(tb_7 (List.mem_of_getElem? (i := 173) rfl)), by decide +kernel⟩
set_option maxRecDepth 100000 in
theorem w_1978 : (Jvm.Cond.instanceMethod ({ cls := "ScarArmyModel", name := "scar", desc := "(II)I" } : Jvm.MethodName)) ∈ pT := List.mem_filter.mpr ⟨(tb_7 (List.mem_of_getElem? (i := 174) rfl)), by decide +kernel⟩
set_option maxRecDepth 100000 in
theorem w_1979 : (Jvm.Cond.selects "ScarArmyModel" ({ cls := "ScarArmyModel", name := "scar", desc := "(II)I" } : Jvm.MethodName) ({ cls := "ScarArmyModel", name := "scar", desc := "(II)I" } : Jvm.MethodName)) ∈ pT := List.mem_filter.mpr ⟨(tb_7 (List.mem_of_getElem? (i := 175) rfl)), by decide +kernel⟩
set_option maxRecDepth 100000 in
theorem w_2001 : (Jvm.Cond.methodLink "ScarArmyLaw" (153 : Nat) ({ cls := "ScarArmyModel", name := "who", desc := "(I)I" } : Jvm.MethodName)) ∈ pT := List.mem_filter.mpr ⟨(tb_7 (List.mem_of_getElem? (i := 197) rfl)), by decide +kernel⟩
set_option maxRecDepth 100000 in
theorem w_2002 : (Jvm.Cond.instanceMethod ({ cls := "ScarArmyModel", name := "who", desc := "(I)I" } : Jvm.MethodName)) ∈ pT := List.mem_filter.mpr ⟨(tb_7 (List.mem_of_getElem? (i := 198) rfl)), by decide +kernel⟩
set_option maxRecDepth 100000 in
theorem w_2003 : (Jvm.Cond.selects "ScarArmyModel" ({ cls := "ScarArmyModel", name := "who", desc := "(I)I" } : Jvm.MethodName) ({ cls := "ScarArmyModel", name := "who", desc := "(I)I" } : Jvm.MethodName)) ∈ pT := List.mem_filter.mpr ⟨(tb_7 (List.mem_of_getElem? (i := 199) rfl)), by decide +kernel⟩
set_option maxRecDepth 100000 in
theorem w_2009 : (Jvm.Cond.methodLink "ScarArmyLaw" (157 : Nat) ({ cls := "ScarArmyModel", name := "hand", desc := "(III)I" } : Jvm.MethodName)) ∈ pT := List.mem_filter.mpr ⟨(tb_7 (List.mem_of_getElem? (i := 205) rfl)), by decide +kernel⟩
set_option maxRecDepth 100000 in
theorem w_2010 : (Jvm.Cond.instanceMethod ({ cls := "ScarArmyModel", name := "hand", desc := "(III)I" } : Jvm.MethodName)) ∈ pT := List.mem_filter.mpr ⟨(tb_7 (List.mem_of_getElem? (i := 206) rfl)), by decide +kernel⟩
set_option maxRecDepth 100000 in
theorem w_2011 : (Jvm.Cond.selects "ScarArmyModel" ({ cls := "ScarArmyModel", name := "hand", desc := "(III)I" } : Jvm.MethodName) ({ cls := "ScarArmyModel", name := "hand", desc := "(III)I" } : Jvm.MethodName)) ∈ pT := List.mem_filter.mpr ⟨(tb_7 (List.mem_of_getElem? (i := 207) rfl)), by decide +kernel⟩
set_option maxRecDepth 100000 in
theorem w_2030 : (Jvm.Cond.methodLink "ScarArmyLaw" (160 : Nat) ({ cls := "ScarArmyModel", name := "polish", desc := "(II)I" } : Jvm.MethodName)) ∈ pT := List.mem_filter.mpr ⟨(tb_7 (List.mem_of_getElem? (i := 226) rfl)), by decide +kernel⟩
set_option maxRecDepth 100000 in
theorem w_2031 : (Jvm.Cond.instanceMethod ({ cls := "ScarArmyModel", name := "polish", desc := "(II)I" } : Jvm.MethodName)) ∈ pT := List.mem_filter.mpr ⟨(tb_7 (List.mem_of_getElem? (i := 227) rfl)), by decide +kernel⟩
set_option maxRecDepth 100000 in
theorem w_2032 : (Jvm.Cond.selects "ScarArmyModel" ({ cls := "ScarArmyModel", name := "polish", desc := "(II)I" } : Jvm.MethodName) ({ cls := "ScarArmyModel", name := "polish", desc := "(II)I" } : Jvm.MethodName)) ∈ pT := List.mem_filter.mpr ⟨(tb_7 (List.mem_of_getElem? (i := 228) rfl)), by decide +kernel⟩
set_option maxRecDepth 100000 in
theorem w_2034 : (Jvm.Cond.methodLink "ScarArmyLaw" (163 : Nat) ({ cls := "ScarArmyModel", name := "die", desc := "(I)I" } : Jvm.MethodName)) ∈ pT := List.mem_filter.mpr ⟨(tb_7 (List.mem_of_getElem? (i := 230) rfl)), by decide +kernel⟩
set_option maxRecDepth 100000 in
theorem w_2035 : (Jvm.Cond.instanceMethod ({ cls := "ScarArmyModel", name := "die", desc := "(I)I" } : Jvm.MethodName)) ∈ pT := List.mem_filter.mpr ⟨(tb_7 (List.mem_of_getElem? (i := 231) rfl)), by decide +kernel⟩
set_option maxRecDepth 100000 in
theorem w_2036 : (Jvm.Cond.selects "ScarArmyModel" ({ cls := "ScarArmyModel", name := "die", desc := "(I)I" } : Jvm.MethodName) ({ cls := "ScarArmyModel", name := "die", desc := "(I)I" } : Jvm.MethodName)) ∈ pT := List.mem_filter.mpr ⟨(tb_7 (List.mem_of_getElem? (i := 232) rfl)), by decide +kernel⟩
set_option maxRecDepth 100000 in
theorem w_2038 : (Jvm.Cond.methodLink "ScarArmyLaw" (166 : Nat) ({ cls := "ScarArmyModel", name := "widow", desc := "(II)I" } : Jvm.MethodName)) ∈ pT := List.mem_filter.mpr ⟨(tb_7 (List.mem_of_getElem? (i := 234) rfl)), by decide +kernel⟩
set_option maxRecDepth 100000 in
theorem w_2039 : (Jvm.Cond.instanceMethod ({ cls := "ScarArmyModel", name := "widow", desc := "(II)I" } : Jvm.MethodName)) ∈ pT := List.mem_filter.mpr ⟨(tb_7 (List.mem_of_getElem? (i := 235) rfl)), by decide +kernel⟩
set_option maxRecDepth 100000 in
theorem w_2040 : (Jvm.Cond.selects "ScarArmyModel" ({ cls := "ScarArmyModel", name := "widow", desc := "(II)I" } : Jvm.MethodName) ({ cls := "ScarArmyModel", name := "widow", desc := "(II)I" } : Jvm.MethodName)) ∈ pT := List.mem_filter.mpr ⟨(tb_7 (List.mem_of_getElem? (i := 236) rfl)), by decide +kernel⟩
set_option maxRecDepth 100000 in
theorem w_2043 : (Jvm.Cond.methodLink "ScarArmyLaw" (170 : Nat) ({ cls := "ScarArmyModel", name := "wound", desc := "(IIIII)I" } : Jvm.MethodName)) ∈ pT := List.mem_filter.mpr ⟨(tb_7 (List.mem_of_getElem? (i := 239) rfl)), by decide +kernel⟩
set_option maxRecDepth 100000 in
theorem w_2044 : (Jvm.Cond.instanceMethod ({ cls := "ScarArmyModel", name := "wound", desc := "(IIIII)I" } : Jvm.MethodName)) ∈ pT := List.mem_filter.mpr ⟨(tb_8 (List.mem_of_getElem? (i := 0) rfl)), by decide +kernel⟩
set_option maxRecDepth 100000 in
theorem w_2045 : (Jvm.Cond.selects "ScarArmyModel" ({ cls := "ScarArmyModel", name := "wound", desc := "(IIIII)I" } : Jvm.MethodName) ({ cls := "ScarArmyModel", name := "wound", desc := "(IIIII)I" } : Jvm.MethodName)) ∈ pT := List.mem_filter.mpr ⟨(tb_8 (List.mem_of_getElem? (i := 1) rfl)), by decide +kernel⟩
set_option maxRecDepth 100000 in
theorem w_2047 : (Jvm.Cond.methodLink "ScarArmyLaw" (173 : Nat) ({ cls := "ScarArmyModel", name := "days", desc := "(I)I" } : Jvm.MethodName)) ∈ pT := List.mem_filter.mpr ⟨(tb_8 (List.mem_of_getElem? (i := 3) rfl)), by decide +kernel⟩
set_option maxRecDepth 100000 in
theorem w_2048 : (Jvm.Cond.instanceMethod ({ cls := "ScarArmyModel", name := "days", desc := "(I)I" } : Jvm.MethodName)) ∈ pT := List.mem_filter.mpr ⟨(tb_8 (List.mem_of_getElem? (i := 4) rfl)), by decide +kernel⟩
set_option maxRecDepth 100000 in
theorem w_2049 : (Jvm.Cond.selects "ScarArmyModel" ({ cls := "ScarArmyModel", name := "days", desc := "(I)I" } : Jvm.MethodName) ({ cls := "ScarArmyModel", name := "days", desc := "(I)I" } : Jvm.MethodName)) ∈ pT := List.mem_filter.mpr ⟨(tb_8 (List.mem_of_getElem? (i := 5) rfl)), by decide +kernel⟩
set_option maxRecDepth 100000 in
theorem w_2059 : (Jvm.Cond.methodLink "ScarArmyLaw" (180 : Nat) ({ cls := "ScarArmyModel", name := "swaps", desc := "()I" } : Jvm.MethodName)) ∈ pT := List.mem_filter.mpr ⟨(tb_8 (List.mem_of_getElem? (i := 15) rfl)), by decide +kernel⟩
set_option maxRecDepth 100000 in
theorem w_2060 : (Jvm.Cond.instanceMethod ({ cls := "ScarArmyModel", name := "swaps", desc := "()I" } : Jvm.MethodName)) ∈ pT := List.mem_filter.mpr ⟨(tb_8 (List.mem_of_getElem? (i := 16) rfl)), by decide +kernel⟩
set_option maxRecDepth 100000 in
theorem w_2061 : (Jvm.Cond.selects "ScarArmyModel" ({ cls := "ScarArmyModel", name := "swaps", desc := "()I" } : Jvm.MethodName) ({ cls := "ScarArmyModel", name := "swaps", desc := "()I" } : Jvm.MethodName)) ∈ pT := List.mem_filter.mpr ⟨(tb_8 (List.mem_of_getElem? (i := 17) rfl)), by decide +kernel⟩
set_option maxRecDepth 100000 in
theorem w_2063 : (Jvm.Cond.methodLink "ScarArmyLaw" (184 : Nat) ({ cls := "ScarArmyModel", name := "his", desc := "(I)Z" } : Jvm.MethodName)) ∈ pT := List.mem_filter.mpr ⟨(tb_8 (List.mem_of_getElem? (i := 19) rfl)), by decide +kernel⟩
set_option maxRecDepth 100000 in
theorem w_2064 : (Jvm.Cond.instanceMethod ({ cls := "ScarArmyModel", name := "his", desc := "(I)Z" } : Jvm.MethodName)) ∈ pT := List.mem_filter.mpr ⟨(tb_8 (List.mem_of_getElem? (i := 20) rfl)), by decide +kernel⟩
set_option maxRecDepth 100000 in
theorem w_2065 : (Jvm.Cond.selects "ScarArmyModel" ({ cls := "ScarArmyModel", name := "his", desc := "(I)Z" } : Jvm.MethodName) ({ cls := "ScarArmyModel", name := "his", desc := "(I)Z" } : Jvm.MethodName)) ∈ pT := List.mem_filter.mpr ⟨(tb_8 (List.mem_of_getElem? (i := 21) rfl)), by decide +kernel⟩
set_option maxRecDepth 100000 in
theorem w_2084 : (Jvm.Cond.methodLink "ScarArmyLaw" (188 : Nat) ({ cls := "ScarArmyModel", name := "largest", desc := "(IZ)I" } : Jvm.MethodName)) ∈ pT := List.mem_filter.mpr ⟨(tb_8 (List.mem_of_getElem? (i := 40) rfl)), by decide +kernel⟩
set_option maxRecDepth 100000 in
theorem w_2085 : (Jvm.Cond.instanceMethod ({ cls := "ScarArmyModel", name := "largest", desc := "(IZ)I" } : Jvm.MethodName)) ∈ pT := List.mem_filter.mpr ⟨(tb_8 (List.mem_of_getElem? (i := 41) rfl)), by decide +kernel⟩
set_option maxRecDepth 100000 in
theorem w_2086 : (Jvm.Cond.selects "ScarArmyModel" ({ cls := "ScarArmyModel", name := "largest", desc := "(IZ)I" } : Jvm.MethodName) ({ cls := "ScarArmyModel", name := "largest", desc := "(IZ)I" } : Jvm.MethodName)) ∈ pT := List.mem_filter.mpr ⟨(tb_8 (List.mem_of_getElem? (i := 42) rfl)), by decide +kernel⟩
set_option maxRecDepth 100000 in
theorem w_2088 : (Jvm.Cond.methodLink "ScarArmyLaw" (191 : Nat) ({ cls := "ScarArmyModel", name := "betrays", desc := "(I)I" } : Jvm.MethodName)) ∈ pT := List.mem_filter.mpr ⟨(tb_8 (List.mem_of_getElem? (i := 44) rfl)), by decide +kernel⟩
set_option maxRecDepth 100000 in
theorem w_2089 : (Jvm.Cond.instanceMethod ({ cls := "ScarArmyModel", name := "betrays", desc := "(I)I" } : Jvm.MethodName)) ∈ pT := List.mem_filter.mpr ⟨(tb_8 (List.mem_of_getElem? (i := 45) rfl)), by decide +kernel⟩
set_option maxRecDepth 100000 in
theorem w_2090 : (Jvm.Cond.selects "ScarArmyModel" ({ cls := "ScarArmyModel", name := "betrays", desc := "(I)I" } : Jvm.MethodName) ({ cls := "ScarArmyModel", name := "betrays", desc := "(I)I" } : Jvm.MethodName)) ∈ pT := List.mem_filter.mpr ⟨(tb_8 (List.mem_of_getElem? (i := 46) rfl)), by decide +kernel⟩
set_option maxRecDepth 100000 in
theorem w_2092 : (Jvm.Cond.methodLink "ScarArmyLaw" (195 : Nat) ({ cls := "ScarArmyModel", name := "fewest", desc := "()I" } : Jvm.MethodName)) ∈ pT := List.mem_filter.mpr ⟨(tb_8 (List.mem_of_getElem? (i := 48) rfl)), by decide +kernel⟩
set_option maxRecDepth 100000 in
theorem w_2093 : (Jvm.Cond.instanceMethod ({ cls := "ScarArmyModel", name := "fewest", desc := "()I" } : Jvm.MethodName)) ∈ pT := List.mem_filter.mpr ⟨(tb_8 (List.mem_of_getElem? (i := 49) rfl)), by decide +kernel⟩
set_option maxRecDepth 100000 in
theorem w_2094 : (Jvm.Cond.selects "ScarArmyModel" ({ cls := "ScarArmyModel", name := "fewest", desc := "()I" } : Jvm.MethodName) ({ cls := "ScarArmyModel", name := "fewest", desc := "()I" } : Jvm.MethodName)) ∈ pT := List.mem_filter.mpr ⟨(tb_8 (List.mem_of_getElem? (i := 50) rfl)), by decide +kernel⟩
set_option maxRecDepth 100000 in
theorem w_2096 : (Jvm.Cond.methodLink "ScarArmyLaw" (199 : Nat) ({ cls := "ScarArmyModel", name := "least", desc := "(IIZ)I" } : Jvm.MethodName)) ∈ pT := List.mem_filter.mpr ⟨(tb_8 (List.mem_of_getElem? (i := 52) rfl)), by decide +kernel⟩
set_option maxRecDepth 100000 in
theorem w_2097 : (Jvm.Cond.instanceMethod ({ cls := "ScarArmyModel", name := "least", desc := "(IIZ)I" } : Jvm.MethodName)) ∈ pT := List.mem_filter.mpr ⟨(tb_8 (List.mem_of_getElem? (i := 53) rfl)), by decide +kernel⟩
set_option maxRecDepth 100000 in
theorem w_2098 : (Jvm.Cond.selects "ScarArmyModel" ({ cls := "ScarArmyModel", name := "least", desc := "(IIZ)I" } : Jvm.MethodName) ({ cls := "ScarArmyModel", name := "least", desc := "(IIZ)I" } : Jvm.MethodName)) ∈ pT := List.mem_filter.mpr ⟨(tb_8 (List.mem_of_getElem? (i := 54) rfl)), by decide +kernel⟩
set_option maxRecDepth 100000 in
theorem w_2115 : (Jvm.Cond.methodLink "ScarArmyLaw" (202 : Nat) ({ cls := "ScarArmyModel", name := "gains", desc := "(II)I" } : Jvm.MethodName)) ∈ pT := List.mem_filter.mpr ⟨(tb_8 (List.mem_of_getElem? (i := 71) rfl)), by decide +kernel⟩
set_option maxRecDepth 100000 in
theorem w_2116 : (Jvm.Cond.instanceMethod ({ cls := "ScarArmyModel", name := "gains", desc := "(II)I" } : Jvm.MethodName)) ∈ pT := List.mem_filter.mpr ⟨(tb_8 (List.mem_of_getElem? (i := 72) rfl)), by decide +kernel⟩
set_option maxRecDepth 100000 in
theorem w_2117 : (Jvm.Cond.selects "ScarArmyModel" ({ cls := "ScarArmyModel", name := "gains", desc := "(II)I" } : Jvm.MethodName) ({ cls := "ScarArmyModel", name := "gains", desc := "(II)I" } : Jvm.MethodName)) ∈ pT := List.mem_filter.mpr ⟨(tb_8 (List.mem_of_getElem? (i := 73) rfl)), by decide +kernel⟩
set_option maxRecDepth 100000 in
theorem w_2123 : (Jvm.Cond.methodLink "ScarArmyLaw" (205 : Nat) ({ cls := "ScarArmyModel", name := "buyer", desc := "(I)I" } : Jvm.MethodName)) ∈ pT := List.mem_filter.mpr ⟨(tb_8 (List.mem_of_getElem? (i := 79) rfl)), by decide +kernel⟩
set_option maxRecDepth 100000 in
theorem w_2124 : (Jvm.Cond.instanceMethod ({ cls := "ScarArmyModel", name := "buyer", desc := "(I)I" } : Jvm.MethodName)) ∈ pT := List.mem_filter.mpr ⟨(tb_8 (List.mem_of_getElem? (i := 80) rfl)), by decide +kernel⟩
set_option maxRecDepth 100000 in
theorem w_2125 : (Jvm.Cond.selects "ScarArmyModel" ({ cls := "ScarArmyModel", name := "buyer", desc := "(I)I" } : Jvm.MethodName) ({ cls := "ScarArmyModel", name := "buyer", desc := "(I)I" } : Jvm.MethodName)) ∈ pT := List.mem_filter.mpr ⟨(tb_8 (List.mem_of_getElem? (i := 81) rfl)), by decide +kernel⟩
set_option maxRecDepth 100000 in
theorem w_2131 : (Jvm.Cond.methodLink "ScarArmyLaw" (224 : Nat) ({ cls := "ScarArmyModel", name := "bargain", desc := "(Z)I" } : Jvm.MethodName)) ∈ pT := List.mem_filter.mpr ⟨(tb_8 (List.mem_of_getElem? (i := 87) rfl)), by decide +kernel⟩
set_option maxRecDepth 100000 in
theorem w_2132 : (Jvm.Cond.instanceMethod ({ cls := "ScarArmyModel", name := "bargain", desc := "(Z)I" } : Jvm.MethodName)) ∈ pT := List.mem_filter.mpr ⟨(tb_8 (List.mem_of_getElem? (i := 88) rfl)), by decide +kernel⟩
set_option maxRecDepth 100000 in
theorem w_2133 : (Jvm.Cond.selects "ScarArmyModel" ({ cls := "ScarArmyModel", name := "bargain", desc := "(Z)I" } : Jvm.MethodName) ({ cls := "ScarArmyModel", name := "bargain", desc := "(Z)I" } : Jvm.MethodName)) ∈ pT := List.mem_filter.mpr ⟨(tb_8 (List.mem_of_getElem? (i := 89) rfl)), by decide +kernel⟩
set_option maxRecDepth 100000 in
theorem w_2135 : (Jvm.Cond.methodLink "ScarArmyLaw" (208 : Nat) ({ cls := "ScarArmyModel", name := "enemies", desc := "(I)I" } : Jvm.MethodName)) ∈ pT := List.mem_filter.mpr ⟨(tb_8 (List.mem_of_getElem? (i := 91) rfl)), by decide +kernel⟩
set_option maxRecDepth 100000 in
theorem w_2136 : (Jvm.Cond.instanceMethod ({ cls := "ScarArmyModel", name := "enemies", desc := "(I)I" } : Jvm.MethodName)) ∈ pT := List.mem_filter.mpr ⟨(tb_8 (List.mem_of_getElem? (i := 92) rfl)), by decide +kernel⟩
set_option maxRecDepth 100000 in
theorem w_2137 : (Jvm.Cond.selects "ScarArmyModel" ({ cls := "ScarArmyModel", name := "enemies", desc := "(I)I" } : Jvm.MethodName) ({ cls := "ScarArmyModel", name := "enemies", desc := "(I)I" } : Jvm.MethodName)) ∈ pT := List.mem_filter.mpr ⟨(tb_8 (List.mem_of_getElem? (i := 93) rfl)), by decide +kernel⟩
set_option maxRecDepth 100000 in
theorem w_2147 : (Jvm.Cond.methodLink "ScarArmyLaw" (212 : Nat) ({ cls := "ScarArmyModel", name := "sergeant", desc := "()I" } : Jvm.MethodName)) ∈ pT := List.mem_filter.mpr ⟨(tb_8 (List.mem_of_getElem? (i := 103) rfl)), by decide +kernel⟩
set_option maxRecDepth 100000 in
theorem w_2148 : (Jvm.Cond.instanceMethod ({ cls := "ScarArmyModel", name := "sergeant", desc := "()I" } : Jvm.MethodName)) ∈ pT := List.mem_filter.mpr ⟨(tb_8 (List.mem_of_getElem? (i := 104) rfl)), by decide +kernel⟩
set_option maxRecDepth 100000 in
theorem w_2149 : (Jvm.Cond.selects "ScarArmyModel" ({ cls := "ScarArmyModel", name := "sergeant", desc := "()I" } : Jvm.MethodName) ({ cls := "ScarArmyModel", name := "sergeant", desc := "()I" } : Jvm.MethodName)) ∈ pT := List.mem_filter.mpr ⟨(tb_8 (List.mem_of_getElem? (i := 105) rfl)), by decide +kernel⟩
set_option maxRecDepth 100000 in
theorem w_2151 : (Jvm.Cond.methodLink "ScarArmyLaw" (216 : Nat) ({ cls := "ScarArmyModel", name := "turn", desc := "(IIII)I" } : Jvm.MethodName)) ∈ pT := List.mem_filter.mpr ⟨(tb_8 (List.mem_of_getElem? (i := 107) rfl)), by decide +kernel⟩
set_option maxRecDepth 100000 in
theorem w_2152 : (Jvm.Cond.instanceMethod ({ cls := "ScarArmyModel", name := "turn", desc := "(IIII)I" } : Jvm.MethodName)) ∈ pT := List.mem_filter.mpr ⟨(tb_8 (List.mem_of_getElem? (i := 108) rfl)), by decide +kernel⟩
set_option maxRecDepth 100000 in
theorem w_2153 : (Jvm.Cond.selects "ScarArmyModel" ({ cls := "ScarArmyModel", name := "turn", desc := "(IIII)I" } : Jvm.MethodName) ({ cls := "ScarArmyModel", name := "turn", desc := "(IIII)I" } : Jvm.MethodName)) ∈ pT := List.mem_filter.mpr ⟨(tb_8 (List.mem_of_getElem? (i := 109) rfl)), by decide +kernel⟩
set_option maxRecDepth 100000 in
theorem w_2166 : (Jvm.Cond.methodLink "ScarArmyLaw" (219 : Nat) ({ cls := "ScarArmyModel", name := "polished", desc := "(I)I" } : Jvm.MethodName)) ∈ pT := List.mem_filter.mpr ⟨(tb_8 (List.mem_of_getElem? (i := 122) rfl)), by decide +kernel⟩
set_option maxRecDepth 100000 in
theorem w_2167 : (Jvm.Cond.instanceMethod ({ cls := "ScarArmyModel", name := "polished", desc := "(I)I" } : Jvm.MethodName)) ∈ pT := List.mem_filter.mpr ⟨(tb_8 (List.mem_of_getElem? (i := 123) rfl)), by decide +kernel⟩
set_option maxRecDepth 100000 in
theorem w_2168 : (Jvm.Cond.selects "ScarArmyModel" ({ cls := "ScarArmyModel", name := "polished", desc := "(I)I" } : Jvm.MethodName) ({ cls := "ScarArmyModel", name := "polished", desc := "(I)I" } : Jvm.MethodName)) ∈ pT := List.mem_filter.mpr ⟨(tb_8 (List.mem_of_getElem? (i := 124) rfl)), by decide +kernel⟩
set_option maxRecDepth 100000 in
theorem w_2170 : (Jvm.Cond.methodLink "ScarArmyLaw" (227 : Nat) ({ cls := "ScarArmyModel", name := "hands", desc := "(II)I" } : Jvm.MethodName)) ∈ pT := List.mem_filter.mpr ⟨(tb_8 (List.mem_of_getElem? (i := 126) rfl)), by decide +kernel⟩
set_option maxRecDepth 100000 in
theorem w_2171 : (Jvm.Cond.instanceMethod ({ cls := "ScarArmyModel", name := "hands", desc := "(II)I" } : Jvm.MethodName)) ∈ pT := List.mem_filter.mpr ⟨(tb_8 (List.mem_of_getElem? (i := 127) rfl)), by decide +kernel⟩
set_option maxRecDepth 100000 in
theorem w_2172 : (Jvm.Cond.selects "ScarArmyModel" ({ cls := "ScarArmyModel", name := "hands", desc := "(II)I" } : Jvm.MethodName) ({ cls := "ScarArmyModel", name := "hands", desc := "(II)I" } : Jvm.MethodName)) ∈ pT := List.mem_filter.mpr ⟨(tb_8 (List.mem_of_getElem? (i := 128) rfl)), by decide +kernel⟩
set_option maxRecDepth 100000 in
theorem w_2174 : (Jvm.Cond.methodLink "ScarArmyLaw" (231 : Nat) ({ cls := "ScarArmyModel", name := "mourned", desc := "()I" } : Jvm.MethodName)) ∈ pT := List.mem_filter.mpr ⟨(tb_8 (List.mem_of_getElem? (i := 130) rfl)), by decide +kernel⟩
set_option maxRecDepth 100000 in
theorem w_2175 : (Jvm.Cond.instanceMethod ({ cls := "ScarArmyModel", name := "mourned", desc := "()I" } : Jvm.MethodName)) ∈ pT := List.mem_filter.mpr ⟨(tb_8 (List.mem_of_getElem? (i := 131) rfl)), by decide +kernel⟩
set_option maxRecDepth 100000 in
theorem w_2176 : (Jvm.Cond.selects "ScarArmyModel" ({ cls := "ScarArmyModel", name := "mourned", desc := "()I" } : Jvm.MethodName) ({ cls := "ScarArmyModel", name := "mourned", desc := "()I" } : Jvm.MethodName)) ∈ pT := List.mem_filter.mpr ⟨(tb_8 (List.mem_of_getElem? (i := 132) rfl)), by decide +kernel⟩
set_option maxRecDepth 100000 in
theorem w_2178 : (Jvm.Cond.methodLink "ScarArmyLaw" (234 : Nat) ({ cls := "ScarArmyModel", name := "after", desc := "(II)I" } : Jvm.MethodName)) ∈ pT := List.mem_filter.mpr ⟨(tb_8 (List.mem_of_getElem? (i := 134) rfl)), by decide +kernel⟩
set_option maxRecDepth 100000 in
theorem w_2179 : (Jvm.Cond.instanceMethod ({ cls := "ScarArmyModel", name := "after", desc := "(II)I" } : Jvm.MethodName)) ∈ pT := List.mem_filter.mpr ⟨(tb_8 (List.mem_of_getElem? (i := 135) rfl)), by decide +kernel⟩
set_option maxRecDepth 100000 in
theorem w_2180 : (Jvm.Cond.selects "ScarArmyModel" ({ cls := "ScarArmyModel", name := "after", desc := "(II)I" } : Jvm.MethodName) ({ cls := "ScarArmyModel", name := "after", desc := "(II)I" } : Jvm.MethodName)) ∈ pT := List.mem_filter.mpr ⟨(tb_8 (List.mem_of_getElem? (i := 136) rfl)), by decide +kernel⟩
set_option maxRecDepth 100000 in
theorem w_2190 : (Jvm.Cond.methodLink "ScarArmyLaw" (237 : Nat) ({ cls := "ScarArmyModel", name := "shared", desc := "(II)I" } : Jvm.MethodName)) ∈ pT := List.mem_filter.mpr ⟨(tb_8 (List.mem_of_getElem? (i := 146) rfl)), by decide +kernel⟩
set_option maxRecDepth 100000 in
theorem w_2191 : (Jvm.Cond.instanceMethod ({ cls := "ScarArmyModel", name := "shared", desc := "(II)I" } : Jvm.MethodName)) ∈ pT := List.mem_filter.mpr ⟨(tb_8 (List.mem_of_getElem? (i := 147) rfl)), by decide +kernel⟩
set_option maxRecDepth 100000 in
theorem w_2192 : (Jvm.Cond.selects "ScarArmyModel" ({ cls := "ScarArmyModel", name := "shared", desc := "(II)I" } : Jvm.MethodName) ({ cls := "ScarArmyModel", name := "shared", desc := "(II)I" } : Jvm.MethodName)) ∈ pT := List.mem_filter.mpr ⟨(tb_8 (List.mem_of_getElem? (i := 148) rfl)), by decide +kernel⟩
set_option maxRecDepth 100000 in
theorem w_2194 : (Jvm.Cond.methodLink "ScarArmyLaw" (241 : Nat) ({ cls := "ScarArmyModel", name := "route", desc := "(I)Z" } : Jvm.MethodName)) ∈ pT := List.mem_filter.mpr ⟨(tb_8 (List.mem_of_getElem? (i := 150) rfl)), by decide +kernel⟩
set_option maxRecDepth 100000 in
theorem w_2195 : (Jvm.Cond.instanceMethod ({ cls := "ScarArmyModel", name := "route", desc := "(I)Z" } : Jvm.MethodName)) ∈ pT := List.mem_filter.mpr ⟨(tb_8 (List.mem_of_getElem? (i := 151) rfl)), by decide +kernel⟩
set_option maxRecDepth 100000 in
theorem w_2196 : (Jvm.Cond.selects "ScarArmyModel" ({ cls := "ScarArmyModel", name := "route", desc := "(I)Z" } : Jvm.MethodName) ({ cls := "ScarArmyModel", name := "route", desc := "(I)Z" } : Jvm.MethodName)) ∈ pT := List.mem_filter.mpr ⟨(tb_8 (List.mem_of_getElem? (i := 152) rfl)), by decide +kernel⟩
set_option maxRecDepth 100000 in
theorem w_2202 : (Jvm.Cond.methodLink "ScarArmyLaw" (245 : Nat) ({ cls := "ScarArmyModel", name := "campaign", desc := "(Z)I" } : Jvm.MethodName)) ∈ pT := List.mem_filter.mpr ⟨(tb_8 (List.mem_of_getElem? (i := 158) rfl)), by decide +kernel⟩
set_option maxRecDepth 100000 in
theorem w_2203 : (Jvm.Cond.instanceMethod ({ cls := "ScarArmyModel", name := "campaign", desc := "(Z)I" } : Jvm.MethodName)) ∈ pT := List.mem_filter.mpr ⟨(tb_8 (List.mem_of_getElem? (i := 159) rfl)), by decide +kernel⟩
set_option maxRecDepth 100000 in
theorem w_2204 : (Jvm.Cond.selects "ScarArmyModel" ({ cls := "ScarArmyModel", name := "campaign", desc := "(Z)I" } : Jvm.MethodName) ({ cls := "ScarArmyModel", name := "campaign", desc := "(Z)I" } : Jvm.MethodName)) ∈ pT := List.mem_filter.mpr ⟨(tb_8 (List.mem_of_getElem? (i := 160) rfl)), by decide +kernel⟩
set_option maxRecDepth 100000 in
theorem w_2206 : (Jvm.Cond.methodLink "ScarArmyLaw" (249 : Nat) ({ cls := "ScarArmyModel", name := "voids", desc := "()I" } : Jvm.MethodName)) ∈ pT := List.mem_filter.mpr ⟨(tb_8 (List.mem_of_getElem? (i := 162) rfl)), by decide +kernel⟩
set_option maxRecDepth 100000 in
theorem w_2207 : (Jvm.Cond.instanceMethod ({ cls := "ScarArmyModel", name := "voids", desc := "()I" } : Jvm.MethodName)) ∈ pT := List.mem_filter.mpr ⟨(tb_8 (List.mem_of_getElem? (i := 163) rfl)), by decide +kernel⟩
set_option maxRecDepth 100000 in
theorem w_2208 : (Jvm.Cond.selects "ScarArmyModel" ({ cls := "ScarArmyModel", name := "voids", desc := "()I" } : Jvm.MethodName) ({ cls := "ScarArmyModel", name := "voids", desc := "()I" } : Jvm.MethodName)) ∈ pT := List.mem_filter.mpr ⟨(tb_8 (List.mem_of_getElem? (i := 164) rfl)), by decide +kernel⟩
set_option maxRecDepth 100000 in
theorem w_2210 : (Jvm.Cond.methodLink "ScarArmyLaw" (253 : Nat) ({ cls := "ScarArmyModel", name := "lies", desc := "()I" } : Jvm.MethodName)) ∈ pT := List.mem_filter.mpr ⟨(tb_8 (List.mem_of_getElem? (i := 166) rfl)), by decide +kernel⟩
set_option maxRecDepth 100000 in
theorem w_2211 : (Jvm.Cond.instanceMethod ({ cls := "ScarArmyModel", name := "lies", desc := "()I" } : Jvm.MethodName)) ∈ pT := List.mem_filter.mpr ⟨(tb_8 (List.mem_of_getElem? (i := 167) rfl)), by decide +kernel⟩
set_option maxRecDepth 100000 in
theorem w_2212 : (Jvm.Cond.selects "ScarArmyModel" ({ cls := "ScarArmyModel", name := "lies", desc := "()I" } : Jvm.MethodName) ({ cls := "ScarArmyModel", name := "lies", desc := "()I" } : Jvm.MethodName)) ∈ pT := List.mem_filter.mpr ⟨(tb_8 (List.mem_of_getElem? (i := 168) rfl)), by decide +kernel⟩
set_option maxRecDepth 100000 in
theorem w_2214 : (Jvm.Cond.methodLink "ScarArmyLaw" (257 : Nat) ({ cls := "ScarArmyModel", name := "crosswise", desc := "()I" } : Jvm.MethodName)) ∈ pT := List.mem_filter.mpr ⟨(tb_8 (List.mem_of_getElem? (i := 170) rfl)), by decide +kernel⟩
set_option maxRecDepth 100000 in
theorem w_2215 : (Jvm.Cond.instanceMethod ({ cls := "ScarArmyModel", name := "crosswise", desc := "()I" } : Jvm.MethodName)) ∈ pT := List.mem_filter.mpr ⟨(tb_8 (List.mem_of_getElem? (i := 171) rfl)), by decide +kernel⟩
set_option maxRecDepth 100000 in
theorem w_2216 : (Jvm.Cond.selects "ScarArmyModel" ({ cls := "ScarArmyModel", name := "crosswise", desc := "()I" } : Jvm.MethodName) ({ cls := "ScarArmyModel", name := "crosswise", desc := "()I" } : Jvm.MethodName)) ∈ pT := List.mem_filter.mpr ⟨(tb_8 (List.mem_of_getElem? (i := 172) rfl)), by decide +kernel⟩
set_option maxRecDepth 100000 in
theorem w_2218 : (Jvm.Cond.methodLink "ScarArmyLaw" (176 : Nat) ({ cls := "ScarArmyModel", name := "market", desc := "(I)I" } : Jvm.MethodName)) ∈ pT := List.mem_filter.mpr ⟨(tb_8 (List.mem_of_getElem? (i := 174) rfl)), by decide +kernel⟩
set_option maxRecDepth 100000 in
theorem w_2219 : (Jvm.Cond.instanceMethod ({ cls := "ScarArmyModel", name := "market", desc := "(I)I" } : Jvm.MethodName)) ∈ pT := List.mem_filter.mpr ⟨(tb_8 (List.mem_of_getElem? (i := 175) rfl)), by decide +kernel⟩
set_option maxRecDepth 100000 in
theorem w_2220 : (Jvm.Cond.selects "ScarArmyModel" ({ cls := "ScarArmyModel", name := "market", desc := "(I)I" } : Jvm.MethodName) ({ cls := "ScarArmyModel", name := "market", desc := "(I)I" } : Jvm.MethodName)) ∈ pT := List.mem_filter.mpr ⟨(tb_8 (List.mem_of_getElem? (i := 176) rfl)), by decide +kernel⟩
set_option maxRecDepth 100000 in
theorem w_2235 : (Jvm.Cond.methodLink "ScarArmyLaw" (260 : Nat) ({ cls := "ScarArmyModel", name := "trial", desc := "(IZ)I" } : Jvm.MethodName)) ∈ pT := List.mem_filter.mpr ⟨(tb_8 (List.mem_of_getElem? (i := 191) rfl)), by decide +kernel⟩
set_option maxRecDepth 100000 in
theorem w_2236 : (Jvm.Cond.instanceMethod ({ cls := "ScarArmyModel", name := "trial", desc := "(IZ)I" } : Jvm.MethodName)) ∈ pT := List.mem_filter.mpr ⟨(tb_8 (List.mem_of_getElem? (i := 192) rfl)), by decide +kernel⟩
set_option maxRecDepth 100000 in
theorem w_2237 : (Jvm.Cond.selects "ScarArmyModel" ({ cls := "ScarArmyModel", name := "trial", desc := "(IZ)I" } : Jvm.MethodName) ({ cls := "ScarArmyModel", name := "trial", desc := "(IZ)I" } : Jvm.MethodName)) ∈ pT := List.mem_filter.mpr ⟨(tb_8 (List.mem_of_getElem? (i := 193) rfl)), by decide +kernel⟩
set_option maxRecDepth 100000 in
theorem w_2239 : (Jvm.Cond.methodLink "ScarArmyLaw" (263 : Nat) ({ cls := "ScarArmyModel", name := "span", desc := "(IZ)I" } : Jvm.MethodName)) ∈ pT := List.mem_filter.mpr ⟨(tb_8 (List.mem_of_getElem? (i := 195) rfl)), by decide +kernel⟩
set_option maxRecDepth 100000 in
theorem w_2240 : (Jvm.Cond.instanceMethod ({ cls := "ScarArmyModel", name := "span", desc := "(IZ)I" } : Jvm.MethodName)) ∈ pT := List.mem_filter.mpr ⟨(tb_8 (List.mem_of_getElem? (i := 196) rfl)), by decide +kernel⟩
set_option maxRecDepth 100000 in
theorem w_2241 : (Jvm.Cond.selects "ScarArmyModel" ({ cls := "ScarArmyModel", name := "span", desc := "(IZ)I" } : Jvm.MethodName) ({ cls := "ScarArmyModel", name := "span", desc := "(IZ)I" } : Jvm.MethodName)) ∈ pT := List.mem_filter.mpr ⟨(tb_8 (List.mem_of_getElem? (i := 197) rfl)), by decide +kernel⟩
set_option maxRecDepth 100000 in
theorem w_2243 : (Jvm.Cond.methodLink "ScarArmyLaw" (266 : Nat) ({ cls := "ScarArmyModel", name := "led", desc := "(IZ)I" } : Jvm.MethodName)) ∈ pT := List.mem_filter.mpr ⟨(tb_8 (List.mem_of_getElem? (i := 199) rfl)), by decide +kernel⟩
set_option maxRecDepth 100000 in
theorem w_2244 : (Jvm.Cond.instanceMethod ({ cls := "ScarArmyModel", name := "led", desc := "(IZ)I" } : Jvm.MethodName)) ∈ pT := List.mem_filter.mpr ⟨(tb_8 (List.mem_of_getElem? (i := 200) rfl)), by decide +kernel⟩
set_option maxRecDepth 100000 in
theorem w_2245 : (Jvm.Cond.selects "ScarArmyModel" ({ cls := "ScarArmyModel", name := "led", desc := "(IZ)I" } : Jvm.MethodName) ({ cls := "ScarArmyModel", name := "led", desc := "(IZ)I" } : Jvm.MethodName)) ∈ pT := List.mem_filter.mpr ⟨(tb_8 (List.mem_of_getElem? (i := 201) rfl)), by decide +kernel⟩
set_option maxRecDepth 100000 in
theorem w_2247 : (Jvm.Cond.methodLink "ScarArmyLaw" (269 : Nat) ({ cls := "ScarArmyModel", name := "log", desc := "(II)I" } : Jvm.MethodName)) ∈ pT := List.mem_filter.mpr ⟨(tb_8 (List.mem_of_getElem? (i := 203) rfl)), by decide +kernel⟩
set_option maxRecDepth 100000 in
theorem w_2248 : (Jvm.Cond.instanceMethod ({ cls := "ScarArmyModel", name := "log", desc := "(II)I" } : Jvm.MethodName)) ∈ pT := List.mem_filter.mpr ⟨(tb_8 (List.mem_of_getElem? (i := 204) rfl)), by decide +kernel⟩
set_option maxRecDepth 100000 in
theorem w_2249 : (Jvm.Cond.selects "ScarArmyModel" ({ cls := "ScarArmyModel", name := "log", desc := "(II)I" } : Jvm.MethodName) ({ cls := "ScarArmyModel", name := "log", desc := "(II)I" } : Jvm.MethodName)) ∈ pT := List.mem_filter.mpr ⟨(tb_8 (List.mem_of_getElem? (i := 205) rfl)), by decide +kernel⟩
set_option maxRecDepth 100000 in
theorem w_2251 : (Jvm.Cond.methodLink "ScarArmyLaw" (273 : Nat) ({ cls := "ScarArmyModel", name := "seed", desc := "(I)I" } : Jvm.MethodName)) ∈ pT := List.mem_filter.mpr ⟨(tb_8 (List.mem_of_getElem? (i := 207) rfl)), by decide +kernel⟩
set_option maxRecDepth 100000 in
theorem w_2252 : (Jvm.Cond.instanceMethod ({ cls := "ScarArmyModel", name := "seed", desc := "(I)I" } : Jvm.MethodName)) ∈ pT := List.mem_filter.mpr ⟨(tb_8 (List.mem_of_getElem? (i := 208) rfl)), by decide +kernel⟩
set_option maxRecDepth 100000 in
theorem w_2253 : (Jvm.Cond.selects "ScarArmyModel" ({ cls := "ScarArmyModel", name := "seed", desc := "(I)I" } : Jvm.MethodName) ({ cls := "ScarArmyModel", name := "seed", desc := "(I)I" } : Jvm.MethodName)) ∈ pT := List.mem_filter.mpr ⟨(tb_8 (List.mem_of_getElem? (i := 209) rfl)), by decide +kernel⟩
set_option maxRecDepth 100000 in
theorem w_2255 : (Jvm.Cond.methodLink "ScarArmyLaw" (290 : Nat) ({ cls := "ScarArmyModel", name := "count", desc := "(I)I" } : Jvm.MethodName)) ∈ pT := List.mem_filter.mpr ⟨(tb_8 (List.mem_of_getElem? (i := 211) rfl)), by decide +kernel⟩
set_option maxRecDepth 100000 in
theorem w_2256 : (Jvm.Cond.instanceMethod ({ cls := "ScarArmyModel", name := "count", desc := "(I)I" } : Jvm.MethodName)) ∈ pT := List.mem_filter.mpr ⟨(tb_8 (List.mem_of_getElem? (i := 212) rfl)), by decide +kernel⟩
set_option maxRecDepth 100000 in
theorem w_2257 : (Jvm.Cond.selects "ScarArmyModel" ({ cls := "ScarArmyModel", name := "count", desc := "(I)I" } : Jvm.MethodName) ({ cls := "ScarArmyModel", name := "count", desc := "(I)I" } : Jvm.MethodName)) ∈ pT := List.mem_filter.mpr ⟨(tb_8 (List.mem_of_getElem? (i := 213) rfl)), by decide +kernel⟩
set_option maxRecDepth 100000 in
theorem w_2271 : (Jvm.Cond.arrayClass Jvm.ClassFile.FieldType.long) ∈ pT := List.mem_filter.mpr ⟨(tb_8 (List.mem_of_getElem? (i := 227) rfl)), by decide +kernel⟩
