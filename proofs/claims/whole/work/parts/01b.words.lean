/-- the words of the tables that a callee may ask for -/
def UU : List Cond := lw_tbl.filter goodWord
theorem uu_t {w : Cond} (h : w ∈ tables_1) (g : goodWord w = true) : w ∈ UU := List.mem_filter.mpr ⟨List.mem_append_right _ h, g⟩
theorem uu_s {w : Cond} (h : w ∈ k2_sels lw_privs) (g : goodWord w = true) : w ∈ UU := List.mem_filter.mpr ⟨List.mem_append_left _ h, g⟩
theorem uu_good : ∀ w ∈ UU, w ∈ UU ∧ ((w.onTables && w.keeps) = true ∨ ∃ ty, w = .arrayClass ty) := fun w h => ⟨h, good_of_word (List.mem_filter.mp h).2⟩
theorem uu_t1 {w : Cond} (h : w ∈ tables_1_1) (g : goodWord w = true) : w ∈ UU := uu_t (List.mem_append_left _ h) g
theorem uu_t2 {w : Cond} (h : w ∈ tables_1_2) (g : goodWord w = true) : w ∈ UU := uu_t (List.mem_append_right _ (List.mem_append_left _ h)) g
theorem uu_t3 {w : Cond} (h : w ∈ tables_1_3) (g : goodWord w = true) : w ∈ UU := uu_t (List.mem_append_right _ (List.mem_append_right _ (List.mem_append_left _ h))) g
theorem uu_t4 {w : Cond} (h : w ∈ tables_1_4) (g : goodWord w = true) : w ∈ UU := uu_t (List.mem_append_right _ (List.mem_append_right _ (List.mem_append_right _ (List.mem_append_left _ h)))) g
theorem uu_t5 {w : Cond} (h : w ∈ tables_1_5) (g : goodWord w = true) : w ∈ UU := uu_t (List.mem_append_right _ (List.mem_append_right _ (List.mem_append_right _ (List.mem_append_right _ h)))) g
/-- a method's words: its code, and all of UU -/
abbrev wy (y : MethodName) (b : ByteArray) (n : Nat) (ret : Option FieldType) : List Cond := Cond.code y b n ret :: UU
theorem gC {y : MethodName} {b : ByteArray} {n : Nat} {ret : Option FieldType} (h : Cond.code y b n ret ∈ UU) : GoodIn UU (wy y b n ret) := fun w hw => (List.mem_cons.mp hw).elim (fun e => e ▸ uu_good _ h) (uu_good w)
theorem gV {own C : String} {idx : Nat} {y : MethodName} {b : ByteArray} {n : Nat} {ret : Option FieldType} (h1 : Cond.methodLink own idx y ∈ UU) (h2 : Cond.instanceMethod y ∈ UU) (h3 : Cond.selects C y y ∈ UU) (h4 : Cond.initialized C ∈ UU) (h : Cond.code y b n ret ∈ UU) : GoodIn UU (wsV own idx C y (wy y b n ret)) := fun w hw => (List.mem_append.mp hw).elim (fun q => by
  simp only [List.mem_cons, List.not_mem_nil, or_false] at q
  rcases q with rfl | rfl | rfl | rfl
  · exact uu_good _ h1
  · exact uu_good _ h2
  · exact uu_good _ h3
  · exact uu_good _ h4) (gC h w)
theorem gS {own : String} {idx : Nat} {y : MethodName} {b : ByteArray} {n : Nat} {ret : Option FieldType} (h1 : Cond.methodLink own idx y ∈ UU) (h2 : Cond.static y ∈ UU) (h4 : Cond.initialized y.cls ∈ UU) (h : Cond.code y b n ret ∈ UU) : GoodIn UU (va_wsS own idx y (wy y b n ret)) := fun w hw => (List.mem_append.mp hw).elim (fun q => by
  simp only [List.mem_cons, List.not_mem_nil, or_false] at q
  rcases q with rfl | rfl | rfl
  · exact uu_good _ h1
  · exact uu_good _ h2
  · exact uu_good _ h4) (gC h w)
theorem uu0 : (.initialized RL : Cond) ∈ UU := uu_t1 (List.mem_of_getElem? (i := 0) rfl) rfl
theorem uu1 : (.initialized RX5 : Cond) ∈ UU := uu_t1 (List.mem_of_getElem? (i := 1) rfl) rfl
theorem uu2 : (.initialized RX0 : Cond) ∈ UU := uu_t1 (List.mem_of_getElem? (i := 2) rfl) rfl
theorem uu3 : (.initialized RX3 : Cond) ∈ UU := uu_t1 (List.mem_of_getElem? (i := 3) rfl) rfl
theorem uu4 : (.initialized RX1 : Cond) ∈ UU := uu_t1 (List.mem_of_getElem? (i := 4) rfl) rfl
theorem uu5 : (.initialized RX4 : Cond) ∈ UU := uu_t1 (List.mem_of_getElem? (i := 5) rfl) rfl
theorem uu6 : (.initialized RX6 : Cond) ∈ UU := uu_t1 (List.mem_of_getElem? (i := 6) rfl) rfl
theorem uu7 : (.initialized RJ0 : Cond) ∈ UU := uu_t1 (List.mem_of_getElem? (i := 7) rfl) rfl
theorem uu8 : (.initialized RJ1 : Cond) ∈ UU := uu_t1 (List.mem_of_getElem? (i := 8) rfl) rfl
theorem uu9 : (.initialized RJ3 : Cond) ∈ UU := uu_t1 (List.mem_of_getElem? (i := 9) rfl) rfl
theorem uu10 : (.initialized RJ2 : Cond) ∈ UU := uu_t1 (List.mem_of_getElem? (i := 10) rfl) rfl
theorem uu11 : (.initialized RJ9 : Cond) ∈ UU := uu_t1 (List.mem_of_getElem? (i := 11) rfl) rfl
theorem uu12 : (.initialized RJ11 : Cond) ∈ UU := uu_t1 (List.mem_of_getElem? (i := 12) rfl) rfl
theorem uu13 : (.initialized RJ10 : Cond) ∈ UU := uu_t1 (List.mem_of_getElem? (i := 13) rfl) rfl
theorem uu14 : (.initialized RX2 : Cond) ∈ UU := uu_t1 (List.mem_of_getElem? (i := 14) rfl) rfl
theorem uu15 : (.initialized RJ6 : Cond) ∈ UU := uu_t1 (List.mem_of_getElem? (i := 15) rfl) rfl
theorem uu16 : (.classLink RL 7 RX5 : Cond) ∈ UU := uu_t1 (List.mem_of_getElem? (i := 16) rfl) rfl
theorem uu17 : (.instantiable RX5 11 : Cond) ∈ UU := uu_t1 (List.mem_of_getElem? (i := 17) rfl) rfl
theorem uu18 : (.methodLink RL 9 yX5_init : Cond) ∈ UU := uu_t1 (List.mem_of_getElem? (i := 18) rfl) rfl
theorem uu20 : (.instanceMethod yX5_init : Cond) ∈ UU := uu_t1 (List.mem_of_getElem? (i := 19) rfl) rfl
theorem uu21 : (.code yX5_init cX5_init 1 none : Cond) ∈ UU := uu_t1 (List.mem_of_getElem? (i := 20) rfl) rfl
theorem uu23 : (.methodLink RX5 1 objectInit : Cond) ∈ UU := uu_t1 (List.mem_of_getElem? (i := 21) rfl) rfl
theorem uu25 : (.instanceMethod objectInit : Cond) ∈ UU := uu_t1 (List.mem_of_getElem? (i := 22) rfl) rfl
theorem uu26 : (.code objectInit object_method_1_code 1 none : Cond) ∈ UU := uu_t1 (List.mem_of_getElem? (i := 23) rfl) rfl
theorem uu28 : (.classLink RX5 7 RX0 : Cond) ∈ UU := uu_t1 (List.mem_of_getElem? (i := 24) rfl) rfl
theorem uu29 : (.instantiable RX0 5 : Cond) ∈ UU := uu_t1 (List.mem_of_getElem? (i := 25) rfl) rfl
theorem uu30 : (.methodLink RX5 9 yX0_init : Cond) ∈ UU := uu_t1 (List.mem_of_getElem? (i := 26) rfl) rfl
theorem uu32 : (.instanceMethod yX0_init : Cond) ∈ UU := uu_t1 (List.mem_of_getElem? (i := 27) rfl) rfl
theorem uu33 : (.code yX0_init cX0_init 1 none : Cond) ∈ UU := uu_t1 (List.mem_of_getElem? (i := 28) rfl) rfl
theorem uu35 : (.methodLink RX0 3 objectInit : Cond) ∈ UU := uu_t1 (List.mem_of_getElem? (i := 29) rfl) rfl
theorem uu37 : (.constant RX0 22 (33554431) : Cond) ∈ UU := uu_t1 (List.mem_of_getElem? (i := 30) rfl) rfl
theorem uu39 : (.fieldLink RX0 9 "CoresAreWills$Core" "kinds" "[I" : Cond) ∈ UU := uu_t1 (List.mem_of_getElem? (i := 31) rfl) rfl
theorem uu41 : (.fieldLink RX5 96 "CoresAreWills$Core" "kinds" "[I" : Cond) ∈ UU := uu_t1 (List.mem_of_getElem? (i := 32) rfl) rfl
theorem uu43 : (.fieldLink RX0 15 "CoresAreWills$Core" "figures" "[I" : Cond) ∈ UU := uu_t1 (List.mem_of_getElem? (i := 33) rfl) rfl
theorem uu45 : (.fieldLink RX5 99 "CoresAreWills$Core" "figures" "[I" : Cond) ∈ UU := uu_t1 (List.mem_of_getElem? (i := 34) rfl) rfl
theorem uu47 : (.fieldLink RX0 18 "CoresAreWills$Core" "heirs" "I" : Cond) ∈ UU := uu_t1 (List.mem_of_getElem? (i := 35) rfl) rfl
theorem uu49 : (.fieldLink RX5 217 "CoresAreWills$Core" "heirs" "I" : Cond) ∈ UU := uu_t1 (List.mem_of_getElem? (i := 36) rfl) rfl
theorem uu51 : (.fieldLink RX0 23 "CoresAreWills$Core" "left" "I" : Cond) ∈ UU := uu_t1 (List.mem_of_getElem? (i := 37) rfl) rfl
theorem uu53 : (.fieldLink RX5 76 "CoresAreWills$Core" "left" "I" : Cond) ∈ UU := uu_t1 (List.mem_of_getElem? (i := 38) rfl) rfl
theorem uu55 : (.fieldLink RX0 26 "CoresAreWills$Core" "bitten" "I" : Cond) ∈ UU := uu_t1 (List.mem_of_getElem? (i := 39) rfl) rfl
theorem uu57 : (.fieldLink RX5 118 "CoresAreWills$Core" "bitten" "I" : Cond) ∈ UU := uu_t1 (List.mem_of_getElem? (i := 40) rfl) rfl
theorem uu59 : (.laysFinal "CoresAreWills$Core" "CoresAreWills$Core" "kinds" "[I" : Cond) ∈ UU := uu_t1 (List.mem_of_getElem? (i := 41) rfl) rfl
theorem uu60 : (.laysFinal "CoresAreWills$Core" "CoresAreWills$Core" "figures" "[I" : Cond) ∈ UU := uu_t1 (List.mem_of_getElem? (i := 43) rfl) rfl
theorem uu61 : (.lays "CoresAreWills$Core" "CoresAreWills$Core" "heirs" "I" : Cond) ∈ UU := uu_t1 (List.mem_of_getElem? (i := 45) rfl) rfl
theorem uu62 : (.lays "CoresAreWills$Core" "CoresAreWills$Core" "left" "I" : Cond) ∈ UU := uu_t1 (List.mem_of_getElem? (i := 47) rfl) rfl
theorem uu63 : (.lays "CoresAreWills$Core" "CoresAreWills$Core" "bitten" "I" : Cond) ∈ UU := uu_t1 (List.mem_of_getElem? (i := 49) rfl) rfl
theorem uu64 : (.arrayClass .int : Cond) ∈ UU := uu_t1 (List.mem_of_getElem? (i := 52) rfl) rfl
theorem uu65 : (.classLink RX5 22 RX3 : Cond) ∈ UU := uu_t1 (List.mem_of_getElem? (i := 53) rfl) rfl
theorem uu66 : (.instantiable RX3 4 : Cond) ∈ UU := uu_t1 (List.mem_of_getElem? (i := 54) rfl) rfl
theorem uu67 : (.methodLink RX5 24 yX3_init : Cond) ∈ UU := uu_t1 (List.mem_of_getElem? (i := 55) rfl) rfl
theorem uu69 : (.instanceMethod yX3_init : Cond) ∈ UU := uu_t1 (List.mem_of_getElem? (i := 56) rfl) rfl
theorem uu70 : (.code yX3_init cX3_init 1 none : Cond) ∈ UU := uu_t1 (List.mem_of_getElem? (i := 57) rfl) rfl
theorem uu72 : (.methodLink RX3 3 objectInit : Cond) ∈ UU := uu_t1 (List.mem_of_getElem? (i := 58) rfl) rfl
theorem uu74 : (.fieldLink RX3 15 "CoresAreWills$Reading" "gone" "I" : Cond) ∈ UU := uu_t1 (List.mem_of_getElem? (i := 59) rfl) rfl
theorem uu76 : (.fieldLink RX3 21 "CoresAreWills$Reading" "heaps" "I" : Cond) ∈ UU := uu_t1 (List.mem_of_getElem? (i := 60) rfl) rfl
theorem uu78 : (.fieldLink RX5 138 "CoresAreWills$Reading" "heaps" "I" : Cond) ∈ UU := uu_t1 (List.mem_of_getElem? (i := 61) rfl) rfl
theorem uu80 : (.fieldLink RX3 24 "CoresAreWills$Reading" "fewestCells" "I" : Cond) ∈ UU := uu_t1 (List.mem_of_getElem? (i := 62) rfl) rfl
theorem uu82 : (.fieldLink RX5 141 "CoresAreWills$Reading" "fewestCells" "I" : Cond) ∈ UU := uu_t1 (List.mem_of_getElem? (i := 63) rfl) rfl
theorem uu84 : (.fieldLink RX3 27 "CoresAreWills$Reading" "deed" "I" : Cond) ∈ UU := uu_t1 (List.mem_of_getElem? (i := 64) rfl) rfl
theorem uu86 : (.fieldLink RX5 147 "CoresAreWills$Reading" "deed" "I" : Cond) ∈ UU := uu_t1 (List.mem_of_getElem? (i := 65) rfl) rfl
theorem uu88 : (.lays "CoresAreWills$Reading" "CoresAreWills$Reading" "gone" "I" : Cond) ∈ UU := uu_t1 (List.mem_of_getElem? (i := 66) rfl) rfl
theorem uu89 : (.lays "CoresAreWills$Reading" "CoresAreWills$Reading" "heaps" "I" : Cond) ∈ UU := uu_t1 (List.mem_of_getElem? (i := 68) rfl) rfl
theorem uu90 : (.lays "CoresAreWills$Reading" "CoresAreWills$Reading" "fewestCells" "I" : Cond) ∈ UU := uu_t1 (List.mem_of_getElem? (i := 70) rfl) rfl
theorem uu91 : (.lays "CoresAreWills$Reading" "CoresAreWills$Reading" "deed" "I" : Cond) ∈ UU := uu_t1 (List.mem_of_getElem? (i := 72) rfl) rfl
theorem uu92 : (.classLink RX5 29 RX1 : Cond) ∈ UU := uu_t1 (List.mem_of_getElem? (i := 75) rfl) rfl
theorem uu93 : (.instantiable RX1 4 : Cond) ∈ UU := uu_t1 (List.mem_of_getElem? (i := 76) rfl) rfl
theorem uu94 : (.methodLink RX5 31 yX1_init : Cond) ∈ UU := uu_t1 (List.mem_of_getElem? (i := 77) rfl) rfl
theorem uu96 : (.instanceMethod yX1_init : Cond) ∈ UU := uu_t1 (List.mem_of_getElem? (i := 78) rfl) rfl
theorem uu97 : (.code yX1_init cX1_init 1 none : Cond) ∈ UU := uu_t1 (List.mem_of_getElem? (i := 79) rfl) rfl
theorem uu99 : (.methodLink RX1 3 objectInit : Cond) ∈ UU := uu_t1 (List.mem_of_getElem? (i := 80) rfl) rfl
theorem uu101 : (.fieldLink RX1 11 "CoresAreWills$Cover" "ways" "[I" : Cond) ∈ UU := uu_t1 (List.mem_of_getElem? (i := 81) rfl) rfl
theorem uu103 : (.fieldLink RX1 15 "CoresAreWills$Cover" "fewest" "[I" : Cond) ∈ UU := uu_t1 (List.mem_of_getElem? (i := 82) rfl) rfl
theorem uu105 : (.fieldLink RX1 18 "CoresAreWills$Cover" "nextWays" "[I" : Cond) ∈ UU := uu_t1 (List.mem_of_getElem? (i := 83) rfl) rfl
theorem uu107 : (.fieldLink RX1 21 "CoresAreWills$Cover" "nextFewest" "[I" : Cond) ∈ UU := uu_t1 (List.mem_of_getElem? (i := 84) rfl) rfl
theorem uu109 : (.lays "CoresAreWills$Cover" "CoresAreWills$Cover" "ways" "[I" : Cond) ∈ UU := uu_t1 (List.mem_of_getElem? (i := 85) rfl) rfl
theorem uu110 : (.lays "CoresAreWills$Cover" "CoresAreWills$Cover" "fewest" "[I" : Cond) ∈ UU := uu_t1 (List.mem_of_getElem? (i := 87) rfl) rfl
theorem uu111 : (.lays "CoresAreWills$Cover" "CoresAreWills$Cover" "nextWays" "[I" : Cond) ∈ UU := uu_t1 (List.mem_of_getElem? (i := 89) rfl) rfl
theorem uu112 : (.lays "CoresAreWills$Cover" "CoresAreWills$Cover" "nextFewest" "[I" : Cond) ∈ UU := uu_t1 (List.mem_of_getElem? (i := 91) rfl) rfl
theorem uu113 : (.classLink RX5 36 RX4 : Cond) ∈ UU := uu_t1 (List.mem_of_getElem? (i := 94) rfl) rfl
theorem uu114 : (.instantiable RX4 2 : Cond) ∈ UU := uu_t1 (List.mem_of_getElem? (i := 95) rfl) rfl
theorem uu115 : (.methodLink RX5 38 yX4_init : Cond) ∈ UU := uu_t1 (List.mem_of_getElem? (i := 96) rfl) rfl
theorem uu117 : (.instanceMethod yX4_init : Cond) ∈ UU := uu_t1 (List.mem_of_getElem? (i := 97) rfl) rfl
theorem uu118 : (.code yX4_init cX4_init 1 none : Cond) ∈ UU := uu_t1 (List.mem_of_getElem? (i := 98) rfl) rfl
theorem uu120 : (.methodLink RX4 3 objectInit : Cond) ∈ UU := uu_t1 (List.mem_of_getElem? (i := 99) rfl) rfl
theorem uu122 : (.fieldLink RX4 9 "CoresAreWills$Text" "letters" "[I" : Cond) ∈ UU := uu_t1 (List.mem_of_getElem? (i := 100) rfl) rfl
theorem uu124 : (.fieldLink RX4 15 "CoresAreWills$Text" "length" "I" : Cond) ∈ UU := uu_t1 (List.mem_of_getElem? (i := 101) rfl) rfl
theorem uu126 : (.fieldLink RX5 57 "CoresAreWills$Text" "length" "I" : Cond) ∈ UU := uu_t1 (List.mem_of_getElem? (i := 102) rfl) rfl
theorem uu128 : (.laysFinal "CoresAreWills$Text" "CoresAreWills$Text" "letters" "[I" : Cond) ∈ UU := uu_t1 (List.mem_of_getElem? (i := 103) rfl) rfl
theorem uu129 : (.lays "CoresAreWills$Text" "CoresAreWills$Text" "length" "I" : Cond) ∈ UU := uu_t1 (List.mem_of_getElem? (i := 105) rfl) rfl
theorem uu130 : (.fieldLink RX5 10 "CoresAreWills" "now" "LCoresAreWills$Core;" : Cond) ∈ UU := uu_t1 (List.mem_of_getElem? (i := 108) rfl) rfl
theorem uu132 : (.fieldLink RX5 16 "CoresAreWills" "kept" "LCoresAreWills$Core;" : Cond) ∈ UU := uu_t1 (List.mem_of_getElem? (i := 109) rfl) rfl
theorem uu134 : (.fieldLink RX5 19 "CoresAreWills" "trial" "LCoresAreWills$Core;" : Cond) ∈ UU := uu_t1 (List.mem_of_getElem? (i := 110) rfl) rfl
theorem uu136 : (.fieldLink RX5 25 "CoresAreWills" "reading" "LCoresAreWills$Reading;" : Cond) ∈ UU := uu_t1 (List.mem_of_getElem? (i := 111) rfl) rfl
theorem uu138 : (.fieldLink RX5 32 "CoresAreWills" "cover" "LCoresAreWills$Cover;" : Cond) ∈ UU := uu_t1 (List.mem_of_getElem? (i := 112) rfl) rfl
theorem uu140 : (.fieldLink RX5 39 "CoresAreWills" "text" "LCoresAreWills$Text;" : Cond) ∈ UU := uu_t1 (List.mem_of_getElem? (i := 113) rfl) rfl
theorem uu142 : (.fieldLink RX5 43 "CoresAreWills" "told" "[I" : Cond) ∈ UU := uu_t1 (List.mem_of_getElem? (i := 114) rfl) rfl
theorem uu144 : (.fieldLink RX5 47 "CoresAreWills" "refusals" "[I" : Cond) ∈ UU := uu_t1 (List.mem_of_getElem? (i := 115) rfl) rfl
theorem uu146 : (.fieldLink RX5 50 "CoresAreWills" "ends" "[I" : Cond) ∈ UU := uu_t1 (List.mem_of_getElem? (i := 116) rfl) rfl
theorem uu148 : (.fieldLink RX5 245 "CoresAreWills" "tolds" "I" : Cond) ∈ UU := uu_t1 (List.mem_of_getElem? (i := 117) rfl) rfl
theorem uu150 : (.fieldLink RX5 257 "CoresAreWills" "hasImage" "Z" : Cond) ∈ UU := uu_t1 (List.mem_of_getElem? (i := 118) rfl) rfl
theorem uu152 : (.laysFinal "CoresAreWills" "CoresAreWills" "now" "LCoresAreWills$Core;" : Cond) ∈ UU := uu_t1 (List.mem_of_getElem? (i := 119) rfl) rfl
theorem uu153 : (.laysFinal "CoresAreWills" "CoresAreWills" "kept" "LCoresAreWills$Core;" : Cond) ∈ UU := uu_t1 (List.mem_of_getElem? (i := 121) rfl) rfl
theorem uu154 : (.laysFinal "CoresAreWills" "CoresAreWills" "trial" "LCoresAreWills$Core;" : Cond) ∈ UU := uu_t1 (List.mem_of_getElem? (i := 123) rfl) rfl
theorem uu155 : (.laysFinal "CoresAreWills" "CoresAreWills" "reading" "LCoresAreWills$Reading;" : Cond) ∈ UU := uu_t1 (List.mem_of_getElem? (i := 125) rfl) rfl
theorem uu156 : (.laysFinal "CoresAreWills" "CoresAreWills" "cover" "LCoresAreWills$Cover;" : Cond) ∈ UU := uu_t1 (List.mem_of_getElem? (i := 127) rfl) rfl
theorem uu157 : (.laysFinal "CoresAreWills" "CoresAreWills" "text" "LCoresAreWills$Text;" : Cond) ∈ UU := uu_t1 (List.mem_of_getElem? (i := 129) rfl) rfl
theorem uu158 : (.laysFinal "CoresAreWills" "CoresAreWills" "told" "[I" : Cond) ∈ UU := uu_t1 (List.mem_of_getElem? (i := 131) rfl) rfl
theorem uu159 : (.laysFinal "CoresAreWills" "CoresAreWills" "refusals" "[I" : Cond) ∈ UU := uu_t1 (List.mem_of_getElem? (i := 133) rfl) rfl
theorem uu160 : (.laysFinal "CoresAreWills" "CoresAreWills" "ends" "[I" : Cond) ∈ UU := uu_t1 (List.mem_of_getElem? (i := 135) rfl) rfl
theorem uu161 : (.lays "CoresAreWills" "CoresAreWills" "tolds" "I" : Cond) ∈ UU := uu_t1 (List.mem_of_getElem? (i := 137) rfl) rfl
theorem uu162 : (.lays "CoresAreWills" "CoresAreWills" "hasImage" "Z" : Cond) ∈ UU := uu_t1 (List.mem_of_getElem? (i := 139) rfl) rfl
theorem uu163 : (.methodLink RL 13 yX5_letter : Cond) ∈ UU := uu_t1 (List.mem_of_getElem? (i := 142) rfl) rfl
theorem uu165 : (.instanceMethod yX5_letter : Cond) ∈ UU := uu_t1 (List.mem_of_getElem? (i := 143) rfl) rfl
theorem uu166 : (.selects RX5 yX5_letter yX5_letter : Cond) ∈ UU := uu_t1 (List.mem_of_getElem? (i := 144) rfl) rfl
theorem uu167 : (.code yX5_letter cX5_letter 2 (some .int) : Cond) ∈ UU := uu_t1 (List.mem_of_getElem? (i := 145) rfl) rfl
theorem uu169 : (.methodLink RX5 53 yX5_refused : Cond) ∈ UU := uu_t1 (List.mem_of_getElem? (i := 146) rfl) rfl
theorem uu171 : (.instanceMethod yX5_refused : Cond) ∈ UU := uu_t1 (List.mem_of_getElem? (i := 148) rfl) rfl
theorem uu172 : (.code yX5_refused cX5_refused 2 (some .int) : Cond) ∈ UU := uu_t1 (List.mem_of_getElem? (i := 149) rfl) rfl
theorem uu174 : (.methodLink RX5 61 yX4_takes : Cond) ∈ UU := uu_t1 (List.mem_of_getElem? (i := 150) rfl) rfl
theorem uu176 : (.instanceMethod yX4_takes : Cond) ∈ UU := uu_t1 (List.mem_of_getElem? (i := 151) rfl) rfl
theorem uu177 : (.selects RX4 yX4_takes yX4_takes : Cond) ∈ UU := uu_t1 (List.mem_of_getElem? (i := 152) rfl) rfl
theorem uu178 : (.code yX4_takes cX4_takes 2 (some .int) : Cond) ∈ UU := uu_t1 (List.mem_of_getElem? (i := 153) rfl) rfl
theorem uu180 : (.methodLink RL 18 yX5_core : Cond) ∈ UU := uu_t1 (List.mem_of_getElem? (i := 154) rfl) rfl
theorem uu182 : (.instanceMethod yX5_core : Cond) ∈ UU := uu_t1 (List.mem_of_getElem? (i := 155) rfl) rfl
theorem uu183 : (.selects RX5 yX5_core yX5_core : Cond) ∈ UU := uu_t1 (List.mem_of_getElem? (i := 156) rfl) rfl
theorem uu184 : (.code yX5_core cX5_core 2 (some .int) : Cond) ∈ UU := uu_t1 (List.mem_of_getElem? (i := 157) rfl) rfl
theorem uu186 : (.methodLink RX5 64 yX5_trialOfText : Cond) ∈ UU := uu_t1 (List.mem_of_getElem? (i := 158) rfl) rfl
theorem uu188 : (.instanceMethod yX5_trialOfText : Cond) ∈ UU := uu_t1 (List.mem_of_getElem? (i := 160) rfl) rfl
theorem uu189 : (.code yX5_trialOfText cX5_trialOfText 4 (some .int) : Cond) ∈ UU := uu_t1 (List.mem_of_getElem? (i := 161) rfl) rfl
theorem uu191 : (.methodLink RX5 270 yX4_misfit : Cond) ∈ UU := uu_t1 (List.mem_of_getElem? (i := 162) rfl) rfl
theorem uu193 : (.instanceMethod yX4_misfit : Cond) ∈ UU := uu_t1 (List.mem_of_getElem? (i := 163) rfl) rfl
theorem uu194 : (.selects RX4 yX4_misfit yX4_misfit : Cond) ∈ UU := uu_t1 (List.mem_of_getElem? (i := 164) rfl) rfl
theorem uu195 : (.code yX4_misfit cX4_misfit 4 (some .int) : Cond) ∈ UU := uu_t1 (List.mem_of_getElem? (i := 165) rfl) rfl
theorem uu197 : (.methodLink RX4 19 yX4_formAt : Cond) ∈ UU := uu_t1 (List.mem_of_getElem? (i := 166) rfl) rfl
theorem uu199 : (.instanceMethod yX4_formAt : Cond) ∈ UU := uu_t1 (List.mem_of_getElem? (i := 167) rfl) rfl
theorem uu200 : (.selects RX4 yX4_formAt yX4_formAt : Cond) ∈ UU := uu_t1 (List.mem_of_getElem? (i := 168) rfl) rfl
theorem uu201 : (.code yX4_formAt cX4_formAt 2 (some (.object "java/lang/String")) : Cond) ∈ UU := uu_t1 (List.mem_of_getElem? (i := 169) rfl) rfl
theorem uu203 : (.methodLink RX4 32 yX4_letterAt : Cond) ∈ UU := uu_t1 (List.mem_of_getElem? (i := 170) rfl) rfl
theorem uu205 : (.instanceMethod yX4_letterAt : Cond) ∈ UU := uu_t1 (List.mem_of_getElem? (i := 172) rfl) rfl
theorem uu206 : (.code yX4_letterAt cX4_letterAt 2 (some .int) : Cond) ∈ UU := uu_t1 (List.mem_of_getElem? (i := 173) rfl) rfl
theorem uu208 : (.methodLink RX4 23 yX4_suits : Cond) ∈ UU := uu_t1 (List.mem_of_getElem? (i := 180) rfl) rfl
theorem uu210 : (.static yX4_suits : Cond) ∈ UU := uu_t1 (List.mem_of_getElem? (i := 181) rfl) rfl
theorem uu211 : (.code yX4_suits cX4_suits 4 (some .boolean) : Cond) ∈ UU := uu_t1 (List.mem_of_getElem? (i := 182) rfl) rfl
theorem uu213 : (.methodLink RX4 27 yJ0_length_8abf5 : Cond) ∈ UU := uu_t1 (List.mem_of_getElem? (i := 183) rfl) rfl
theorem uu215 : (.instanceMethod yJ0_length_8abf5 : Cond) ∈ UU := uu_t1 (List.mem_of_getElem? (i := 184) rfl) rfl
theorem uu216 : (.selects RJ0 yJ0_length_8abf5 yJ0_length_8abf5 : Cond) ∈ UU := uu_t1 (List.mem_of_getElem? (i := 185) rfl) rfl
theorem uu217 : (.code yJ0_length_8abf5 cJ0_length_8abf5 1 (some .int) : Cond) ∈ UU := uu_t1 (List.mem_of_getElem? (i := 186) rfl) rfl
theorem uu219 : (.methodLink RJ0 335 yJ0_coder_7d493 : Cond) ∈ UU := uu_t1 (List.mem_of_getElem? (i := 187) rfl) rfl
theorem uu221 : (.instanceMethod yJ0_coder_7d493 : Cond) ∈ UU := uu_t1 (List.mem_of_getElem? (i := 188) rfl) rfl
theorem uu222 : (.selects RJ0 yJ0_coder_7d493 yJ0_coder_7d493 : Cond) ∈ UU := uu_t1 (List.mem_of_getElem? (i := 189) rfl) rfl
theorem uu223 : (.code yJ0_coder_7d493 cJ0_coder_7d493 1 (some .byte) : Cond) ∈ UU := uu_t1 (List.mem_of_getElem? (i := 190) rfl) rfl
theorem uu225 : (.fieldLink RJ0 38 "java/lang/String" "COMPACT_STRINGS" "Z" : Cond) ∈ UU := uu_t1 (List.mem_of_getElem? (i := 191) rfl) rfl
theorem uu227 : (.methodLink RX4 77 yJ0_charAt_5068e : Cond) ∈ UU := uu_t1 (List.mem_of_getElem? (i := 193) rfl) rfl
theorem uu229 : (.instanceMethod yJ0_charAt_5068e : Cond) ∈ UU := uu_t1 (List.mem_of_getElem? (i := 194) rfl) rfl
theorem uu230 : (.selects RJ0 yJ0_charAt_5068e yJ0_charAt_5068e : Cond) ∈ UU := uu_t1 (List.mem_of_getElem? (i := 195) rfl) rfl
theorem uu231 : (.code yJ0_charAt_5068e cJ0_charAt_5068e 2 (some .char) : Cond) ∈ UU := uu_t1 (List.mem_of_getElem? (i := 196) rfl) rfl
theorem uu233 : (.methodLink RJ0 492 yJ0_isLatin1_aae02 : Cond) ∈ UU := uu_t1 (List.mem_of_getElem? (i := 197) rfl) rfl
theorem uu235 : (.instanceMethod yJ0_isLatin1_aae02 : Cond) ∈ UU := uu_t1 (List.mem_of_getElem? (i := 198) rfl) rfl
theorem uu236 : (.selects RJ0 yJ0_isLatin1_aae02 yJ0_isLatin1_aae02 : Cond) ∈ UU := uu_t1 (List.mem_of_getElem? (i := 199) rfl) rfl
theorem uu237 : (.code yJ0_isLatin1_aae02 cJ0_isLatin1_aae02 1 (some .boolean) : Cond) ∈ UU := uu_t1 (List.mem_of_getElem? (i := 200) rfl) rfl
theorem uu239 : (.methodLink RJ0 495 yJ1_charAt_3b067 : Cond) ∈ UU := uu_t1 (List.mem_of_getElem? (i := 201) rfl) rfl
theorem uu241 : (.static yJ1_charAt_3b067 : Cond) ∈ UU := uu_t1 (List.mem_of_getElem? (i := 202) rfl) rfl
theorem uu242 : (.code yJ1_charAt_3b067 cJ1_charAt_3b067 2 (some .char) : Cond) ∈ UU := uu_t1 (List.mem_of_getElem? (i := 203) rfl) rfl
theorem uu244 : (.methodLink RJ1 9 yJ0_checkIndex_df160 : Cond) ∈ UU := uu_t1 (List.mem_of_getElem? (i := 204) rfl) rfl
theorem uu246 : (.static yJ0_checkIndex_df160 : Cond) ∈ UU := uu_t1 (List.mem_of_getElem? (i := 205) rfl) rfl
theorem uu247 : (.code yJ0_checkIndex_df160 cJ0_checkIndex_df160 2 none : Cond) ∈ UU := uu_t1 (List.mem_of_getElem? (i := 206) rfl) rfl
theorem uu249 : (.fieldLink RJ0 1053 "jdk/internal/util/Preconditions" "SIOOBE_FORMATTER" "Ljava/util/function/BiFunction;" : Cond) ∈ UU := uu_t1 (List.mem_of_getElem? (i := 207) rfl) rfl
theorem uu251 : (.methodLink RJ0 1059 yJ3_checkIndex_8e157 : Cond) ∈ UU := uu_t1 (List.mem_of_getElem? (i := 209) rfl) rfl
theorem uu253 : (.static yJ3_checkIndex_8e157 : Cond) ∈ UU := uu_t1 (List.mem_of_getElem? (i := 210) rfl) rfl
theorem uu254 : (.code yJ3_checkIndex_8e157 cJ3_checkIndex_8e157 3 (some .int) : Cond) ∈ UU := uu_t1 (List.mem_of_getElem? (i := 211) rfl) rfl
theorem uu256 : (.methodLink RJ0 498 yJ2_charAt_3b067 : Cond) ∈ UU := uu_t1 (List.mem_of_getElem? (i := 212) rfl) rfl
theorem uu258 : (.static yJ2_charAt_3b067 : Cond) ∈ UU := uu_t1 (List.mem_of_getElem? (i := 213) rfl) rfl
theorem uu259 : (.code yJ2_charAt_3b067 cJ2_charAt_3b067 2 (some .char) : Cond) ∈ UU := uu_t1 (List.mem_of_getElem? (i := 214) rfl) rfl
theorem uu261 : (.methodLink RJ2 67 yJ2_checkIndex_2214a : Cond) ∈ UU := uu_t1 (List.mem_of_getElem? (i := 215) rfl) rfl
theorem uu263 : (.static yJ2_checkIndex_2214a : Cond) ∈ UU := uu_t1 (List.mem_of_getElem? (i := 216) rfl) rfl
theorem uu264 : (.code yJ2_checkIndex_2214a cJ2_checkIndex_2214a 2 none : Cond) ∈ UU := uu_t1 (List.mem_of_getElem? (i := 217) rfl) rfl
theorem uu266 : (.methodLink RJ2 48 yJ2_length_9d52b : Cond) ∈ UU := uu_t1 (List.mem_of_getElem? (i := 218) rfl) rfl
theorem uu268 : (.static yJ2_length_9d52b : Cond) ∈ UU := uu_t1 (List.mem_of_getElem? (i := 219) rfl) rfl
theorem uu269 : (.code yJ2_length_9d52b cJ2_length_9d52b 1 (some .int) : Cond) ∈ UU := uu_t1 (List.mem_of_getElem? (i := 220) rfl) rfl
theorem uu271 : (.methodLink RJ2 414 yJ0_checkIndex_df160 : Cond) ∈ UU := uu_t1 (List.mem_of_getElem? (i := 221) rfl) rfl
theorem uu273 : (.methodLink RJ2 71 yJ2_getChar_3b067 : Cond) ∈ UU := uu_t1 (List.mem_of_getElem? (i := 222) rfl) rfl
theorem uu275 : (.static yJ2_getChar_3b067 : Cond) ∈ UU := uu_t1 (List.mem_of_getElem? (i := 223) rfl) rfl
theorem uu276 : (.code yJ2_getChar_3b067 cJ2_getChar_3b067 2 (some .char) : Cond) ∈ UU := uu_t1 (List.mem_of_getElem? (i := 224) rfl) rfl
theorem uu278 : (.fieldLink RJ2 44 "java/lang/StringUTF16" "$assertionsDisabled" "Z" : Cond) ∈ UU := uu_t1 (List.mem_of_getElem? (i := 225) rfl) rfl
theorem uu280 : (.fieldLink RJ2 59 "java/lang/StringUTF16" "HI_BYTE_SHIFT" "I" : Cond) ∈ UU := uu_t1 (List.mem_of_getElem? (i := 227) rfl) rfl
theorem uu282 : (.fieldLink RJ2 63 "java/lang/StringUTF16" "LO_BYTE_SHIFT" "I" : Cond) ∈ UU := uu_t1 (List.mem_of_getElem? (i := 229) rfl) rfl
theorem uu284 : (.methodLink RX4 83 yJ0_indexOf_0f7a4 : Cond) ∈ UU := uu_t1 (List.mem_of_getElem? (i := 232) rfl) rfl
theorem uu286 : (.instanceMethod yJ0_indexOf_0f7a4 : Cond) ∈ UU := uu_t1 (List.mem_of_getElem? (i := 233) rfl) rfl
theorem uu287 : (.selects RJ0 yJ0_indexOf_0f7a4 yJ0_indexOf_0f7a4 : Cond) ∈ UU := uu_t1 (List.mem_of_getElem? (i := 234) rfl) rfl
theorem uu288 : (.code yJ0_indexOf_0f7a4 cJ0_indexOf_0f7a4 2 (some .int) : Cond) ∈ UU := uu_t1 (List.mem_of_getElem? (i := 235) rfl) rfl
theorem uu290 : (.methodLink RJ0 633 yJ0_indexOf_7cf53 : Cond) ∈ UU := uu_t1 (List.mem_of_getElem? (i := 236) rfl) rfl
theorem uu292 : (.instanceMethod yJ0_indexOf_7cf53 : Cond) ∈ UU := uu_t1 (List.mem_of_getElem? (i := 237) rfl) rfl
theorem uu293 : (.selects RJ0 yJ0_indexOf_7cf53 yJ0_indexOf_7cf53 : Cond) ∈ UU := uu_t1 (List.mem_of_getElem? (i := 238) rfl) rfl
theorem uu294 : (.code yJ0_indexOf_7cf53 cJ0_indexOf_7cf53 3 (some .int) : Cond) ∈ UU := uu_t1 (List.mem_of_getElem? (i := 239) rfl) rfl
theorem uu296 : (.methodLink RJ0 505 yJ0_length_8abf5 : Cond) ∈ UU := uu_t2 (List.mem_of_getElem? (i := 0) rfl) rfl
theorem uu298 : (.methodLink RJ0 637 yJ1_indexOf_4cfef : Cond) ∈ UU := uu_t2 (List.mem_of_getElem? (i := 1) rfl) rfl
theorem uu300 : (.static yJ1_indexOf_4cfef : Cond) ∈ UU := uu_t2 (List.mem_of_getElem? (i := 2) rfl) rfl
theorem uu301 : (.code yJ1_indexOf_4cfef cJ1_indexOf_4cfef 4 (some .int) : Cond) ∈ UU := uu_t2 (List.mem_of_getElem? (i := 3) rfl) rfl
theorem uu303 : (.methodLink RJ1 88 yJ1_canEncode_9a6ad : Cond) ∈ UU := uu_t2 (List.mem_of_getElem? (i := 4) rfl) rfl
theorem uu305 : (.static yJ1_canEncode_9a6ad : Cond) ∈ UU := uu_t2 (List.mem_of_getElem? (i := 5) rfl) rfl
theorem uu306 : (.code yJ1_canEncode_9a6ad cJ1_canEncode_9a6ad 1 (some .boolean) : Cond) ∈ UU := uu_t2 (List.mem_of_getElem? (i := 6) rfl) rfl
theorem uu308 : (.methodLink RJ1 92 yJ9_max_7cf53 : Cond) ∈ UU := uu_t2 (List.mem_of_getElem? (i := 7) rfl) rfl
theorem uu310 : (.static yJ9_max_7cf53 : Cond) ∈ UU := uu_t2 (List.mem_of_getElem? (i := 8) rfl) rfl
theorem uu311 : (.code yJ9_max_7cf53 cJ9_max_7cf53 2 (some .int) : Cond) ∈ UU := uu_t2 (List.mem_of_getElem? (i := 9) rfl) rfl
theorem uu313 : (.methodLink RJ1 38 yJ9_min_7cf53 : Cond) ∈ UU := uu_t2 (List.mem_of_getElem? (i := 10) rfl) rfl
theorem uu315 : (.static yJ9_min_7cf53 : Cond) ∈ UU := uu_t2 (List.mem_of_getElem? (i := 11) rfl) rfl
theorem uu316 : (.code yJ9_min_7cf53 cJ9_min_7cf53 2 (some .int) : Cond) ∈ UU := uu_t2 (List.mem_of_getElem? (i := 12) rfl) rfl
theorem uu318 : (.methodLink RJ1 95 yJ1_indexOfChar_4cfef : Cond) ∈ UU := uu_t2 (List.mem_of_getElem? (i := 13) rfl) rfl
theorem uu320 : (.static yJ1_indexOfChar_4cfef : Cond) ∈ UU := uu_t2 (List.mem_of_getElem? (i := 14) rfl) rfl
theorem uu321 : (.code yJ1_indexOfChar_4cfef cJ1_indexOfChar_4cfef 6 (some .int) : Cond) ∈ UU := uu_t2 (List.mem_of_getElem? (i := 15) rfl) rfl
theorem uu323 : (.methodLink RJ0 640 yJ2_indexOf_4cfef : Cond) ∈ UU := uu_t2 (List.mem_of_getElem? (i := 16) rfl) rfl
theorem uu325 : (.static yJ2_indexOf_4cfef : Cond) ∈ UU := uu_t2 (List.mem_of_getElem? (i := 17) rfl) rfl
theorem uu326 : (.code yJ2_indexOf_4cfef cJ2_indexOf_4cfef 4 (some .int) : Cond) ∈ UU := uu_t2 (List.mem_of_getElem? (i := 18) rfl) rfl
theorem uu328 : (.methodLink RJ2 224 yJ9_max_7cf53 : Cond) ∈ UU := uu_t2 (List.mem_of_getElem? (i := 19) rfl) rfl
theorem uu330 : (.methodLink RJ2 183 yJ9_min_7cf53 : Cond) ∈ UU := uu_t2 (List.mem_of_getElem? (i := 20) rfl) rfl
theorem uu332 : (.constant RJ2 227 (65536) : Cond) ∈ UU := uu_t2 (List.mem_of_getElem? (i := 21) rfl) rfl
theorem uu334 : (.methodLink RJ2 228 yJ2_indexOfChar_4cfef : Cond) ∈ UU := uu_t2 (List.mem_of_getElem? (i := 22) rfl) rfl
theorem uu336 : (.static yJ2_indexOfChar_4cfef : Cond) ∈ UU := uu_t2 (List.mem_of_getElem? (i := 23) rfl) rfl
theorem uu337 : (.code yJ2_indexOfChar_4cfef cJ2_indexOfChar_4cfef 4 (some .int) : Cond) ∈ UU := uu_t2 (List.mem_of_getElem? (i := 24) rfl) rfl
theorem uu339 : (.methodLink RJ2 96 yJ2_checkBoundsBeginEnd_d044e : Cond) ∈ UU := uu_t2 (List.mem_of_getElem? (i := 25) rfl) rfl
theorem uu341 : (.static yJ2_checkBoundsBeginEnd_d044e : Cond) ∈ UU := uu_t2 (List.mem_of_getElem? (i := 26) rfl) rfl
theorem uu342 : (.code yJ2_checkBoundsBeginEnd_d044e cJ2_checkBoundsBeginEnd_d044e 3 none : Cond) ∈ UU := uu_t2 (List.mem_of_getElem? (i := 27) rfl) rfl
theorem uu344 : (.methodLink RJ2 241 yJ0_checkBoundsBeginEnd_23922 : Cond) ∈ UU := uu_t2 (List.mem_of_getElem? (i := 28) rfl) rfl
theorem uu346 : (.static yJ0_checkBoundsBeginEnd_23922 : Cond) ∈ UU := uu_t2 (List.mem_of_getElem? (i := 29) rfl) rfl
theorem uu347 : (.code yJ0_checkBoundsBeginEnd_23922 cJ0_checkBoundsBeginEnd_23922 3 none : Cond) ∈ UU := uu_t2 (List.mem_of_getElem? (i := 30) rfl) rfl
theorem uu349 : (.methodLink RJ0 1062 yJ3_checkFromToIndex_8c36e : Cond) ∈ UU := uu_t2 (List.mem_of_getElem? (i := 31) rfl) rfl
theorem uu351 : (.static yJ3_checkFromToIndex_8c36e : Cond) ∈ UU := uu_t2 (List.mem_of_getElem? (i := 32) rfl) rfl
theorem uu352 : (.code yJ3_checkFromToIndex_8c36e cJ3_checkFromToIndex_8c36e 4 (some .int) : Cond) ∈ UU := uu_t2 (List.mem_of_getElem? (i := 33) rfl) rfl
theorem uu354 : (.methodLink RJ2 244 yJ2_indexOfCharUnsafe_4cfef : Cond) ∈ UU := uu_t2 (List.mem_of_getElem? (i := 34) rfl) rfl
theorem uu356 : (.static yJ2_indexOfCharUnsafe_4cfef : Cond) ∈ UU := uu_t2 (List.mem_of_getElem? (i := 35) rfl) rfl
theorem uu357 : (.code yJ2_indexOfCharUnsafe_4cfef cJ2_indexOfCharUnsafe_4cfef 5 (some .int) : Cond) ∈ UU := uu_t2 (List.mem_of_getElem? (i := 36) rfl) rfl
theorem uu359 : (.methodLink RJ2 232 yJ2_indexOfSupplementary_4cfef : Cond) ∈ UU := uu_t2 (List.mem_of_getElem? (i := 37) rfl) rfl
theorem uu361 : (.static yJ2_indexOfSupplementary_4cfef : Cond) ∈ UU := uu_t2 (List.mem_of_getElem? (i := 38) rfl) rfl
theorem uu362 : (.code yJ2_indexOfSupplementary_4cfef cJ2_indexOfSupplementary_4cfef 7 (some .int) : Cond) ∈ UU := uu_t2 (List.mem_of_getElem? (i := 39) rfl) rfl
theorem uu364 : (.methodLink RJ2 164 yJ11_isValidCodePoint_9a6ad : Cond) ∈ UU := uu_t2 (List.mem_of_getElem? (i := 40) rfl) rfl
theorem uu366 : (.static yJ11_isValidCodePoint_9a6ad : Cond) ∈ UU := uu_t2 (List.mem_of_getElem? (i := 41) rfl) rfl
theorem uu367 : (.code yJ11_isValidCodePoint_9a6ad cJ11_isValidCodePoint_9a6ad 2 (some .boolean) : Cond) ∈ UU := uu_t2 (List.mem_of_getElem? (i := 42) rfl) rfl
theorem uu369 : (.methodLink RJ2 157 yJ11_highSurrogate_5068e : Cond) ∈ UU := uu_t2 (List.mem_of_getElem? (i := 43) rfl) rfl
theorem uu371 : (.static yJ11_highSurrogate_5068e : Cond) ∈ UU := uu_t2 (List.mem_of_getElem? (i := 44) rfl) rfl
theorem uu372 : (.code yJ11_highSurrogate_5068e cJ11_highSurrogate_5068e 1 (some .char) : Cond) ∈ UU := uu_t2 (List.mem_of_getElem? (i := 45) rfl) rfl
theorem uu374 : (.constant RJ11 110 (55232) : Cond) ∈ UU := uu_t2 (List.mem_of_getElem? (i := 46) rfl) rfl
theorem uu376 : (.methodLink RJ2 161 yJ11_lowSurrogate_5068e : Cond) ∈ UU := uu_t2 (List.mem_of_getElem? (i := 47) rfl) rfl
theorem uu378 : (.static yJ11_lowSurrogate_5068e : Cond) ∈ UU := uu_t2 (List.mem_of_getElem? (i := 48) rfl) rfl
theorem uu379 : (.code yJ11_lowSurrogate_5068e cJ11_lowSurrogate_5068e 1 (some .char) : Cond) ∈ UU := uu_t2 (List.mem_of_getElem? (i := 49) rfl) rfl
theorem uu381 : (.constant RJ11 76 (56320) : Cond) ∈ UU := uu_t2 (List.mem_of_getElem? (i := 50) rfl) rfl
theorem uu383 : (.methodLink RX5 68 yX0_becomes : Cond) ∈ UU := uu_t2 (List.mem_of_getElem? (i := 51) rfl) rfl
theorem uu385 : (.instanceMethod yX0_becomes : Cond) ∈ UU := uu_t2 (List.mem_of_getElem? (i := 52) rfl) rfl
theorem uu386 : (.selects RX0 yX0_becomes yX0_becomes : Cond) ∈ UU := uu_t2 (List.mem_of_getElem? (i := 53) rfl) rfl
theorem uu387 : (.code yX0_becomes cX0_becomes 2 none : Cond) ∈ UU := uu_t2 (List.mem_of_getElem? (i := 54) rfl) rfl
theorem uu389 : (.methodLink RX0 29 arraycopyName : Cond) ∈ UU := uu_t2 (List.mem_of_getElem? (i := 55) rfl) rfl
theorem uu391 : (.static arraycopyName : Cond) ∈ UU := uu_t2 (List.mem_of_getElem? (i := 56) rfl) rfl
theorem uu392 : (.native arraycopyName : Cond) ∈ UU := uu_t2 (List.mem_of_getElem? (i := 57) rfl) rfl
theorem uu393 : (.methodLink RX5 273 yX4_doesStatement : Cond) ∈ UU := uu_t2 (List.mem_of_getElem? (i := 58) rfl) rfl
theorem uu395 : (.instanceMethod yX4_doesStatement : Cond) ∈ UU := uu_t2 (List.mem_of_getElem? (i := 59) rfl) rfl
theorem uu396 : (.selects RX4 yX4_doesStatement yX4_doesStatement : Cond) ∈ UU := uu_t2 (List.mem_of_getElem? (i := 60) rfl) rfl
theorem uu397 : (.code yX4_doesStatement cX4_doesStatement 3 (some .boolean) : Cond) ∈ UU := uu_t2 (List.mem_of_getElem? (i := 61) rfl) rfl
theorem uu399 : (.methodLink RX4 48 yX4_kindAt : Cond) ∈ UU := uu_t2 (List.mem_of_getElem? (i := 62) rfl) rfl
theorem uu401 : (.instanceMethod yX4_kindAt : Cond) ∈ UU := uu_t2 (List.mem_of_getElem? (i := 64) rfl) rfl
theorem uu402 : (.code yX4_kindAt cX4_kindAt 2 (some .int) : Cond) ∈ UU := uu_t2 (List.mem_of_getElem? (i := 65) rfl) rfl
theorem uu404 : (.methodLink RX4 51 yX4_digitAt : Cond) ∈ UU := uu_t2 (List.mem_of_getElem? (i := 66) rfl) rfl
theorem uu406 : (.instanceMethod yX4_digitAt : Cond) ∈ UU := uu_t2 (List.mem_of_getElem? (i := 68) rfl) rfl
theorem uu407 : (.code yX4_digitAt cX4_digitAt 2 (some .int) : Cond) ∈ UU := uu_t2 (List.mem_of_getElem? (i := 69) rfl) rfl
theorem uu409 : (.methodLink RX4 54 yX0_takesHeir : Cond) ∈ UU := uu_t2 (List.mem_of_getElem? (i := 70) rfl) rfl
theorem uu411 : (.instanceMethod yX0_takesHeir : Cond) ∈ UU := uu_t2 (List.mem_of_getElem? (i := 71) rfl) rfl
theorem uu412 : (.selects RX0 yX0_takesHeir yX0_takesHeir : Cond) ∈ UU := uu_t2 (List.mem_of_getElem? (i := 72) rfl) rfl
theorem uu413 : (.code yX0_takesHeir cX0_takesHeir 3 (some .boolean) : Cond) ∈ UU := uu_t2 (List.mem_of_getElem? (i := 73) rfl) rfl
theorem uu415 : (.methodLink RX4 60 yX4_numberAt : Cond) ∈ UU := uu_t2 (List.mem_of_getElem? (i := 74) rfl) rfl
theorem uu417 : (.instanceMethod yX4_numberAt : Cond) ∈ UU := uu_t2 (List.mem_of_getElem? (i := 76) rfl) rfl
theorem uu418 : (.code yX4_numberAt cX4_numberAt 2 (some .int) : Cond) ∈ UU := uu_t2 (List.mem_of_getElem? (i := 77) rfl) rfl
theorem uu420 : (.methodLink RX4 63 yX0_takesBite : Cond) ∈ UU := uu_t2 (List.mem_of_getElem? (i := 78) rfl) rfl
theorem uu422 : (.instanceMethod yX0_takesBite : Cond) ∈ UU := uu_t2 (List.mem_of_getElem? (i := 79) rfl) rfl
theorem uu423 : (.selects RX0 yX0_takesBite yX0_takesBite : Cond) ∈ UU := uu_t2 (List.mem_of_getElem? (i := 80) rfl) rfl
theorem uu424 : (.code yX0_takesBite cX0_takesBite 4 (some .boolean) : Cond) ∈ UU := uu_t2 (List.mem_of_getElem? (i := 81) rfl) rfl
theorem uu426 : (.methodLink RX0 35 yX2_cellsOf : Cond) ∈ UU := uu_t2 (List.mem_of_getElem? (i := 82) rfl) rfl
theorem uu428 : (.static yX2_cellsOf : Cond) ∈ UU := uu_t2 (List.mem_of_getElem? (i := 83) rfl) rfl
theorem uu429 : (.code yX2_cellsOf cX2_cellsOf 5 (some .int) : Cond) ∈ UU := uu_t2 (List.mem_of_getElem? (i := 84) rfl) rfl
theorem uu432 : (.static yX5_isCell : Cond) ∈ UU := uu_t2 (List.mem_of_getElem? (i := 86) rfl) rfl
theorem uu433 : (.code yX5_isCell cX5_isCell 1 (some .boolean) : Cond) ∈ UU := uu_t2 (List.mem_of_getElem? (i := 87) rfl) rfl
theorem uu435 : (.methodLink RX0 41 yJ9_min_7cf53 : Cond) ∈ UU := uu_t2 (List.mem_of_getElem? (i := 88) rfl) rfl
theorem uu437 : (.methodLink RX4 66 yX0_mends : Cond) ∈ UU := uu_t2 (List.mem_of_getElem? (i := 89) rfl) rfl
theorem uu439 : (.instanceMethod yX0_mends : Cond) ∈ UU := uu_t2 (List.mem_of_getElem? (i := 90) rfl) rfl
theorem uu440 : (.selects RX0 yX0_mends yX0_mends : Cond) ∈ UU := uu_t2 (List.mem_of_getElem? (i := 91) rfl) rfl
theorem uu441 : (.code yX0_mends cX0_mends 2 (some .boolean) : Cond) ∈ UU := uu_t2 (List.mem_of_getElem? (i := 92) rfl) rfl
theorem uu444 : (.methodLink RX4 70 yX0_turnsBy : Cond) ∈ UU := uu_t2 (List.mem_of_getElem? (i := 94) rfl) rfl
theorem uu446 : (.instanceMethod yX0_turnsBy : Cond) ∈ UU := uu_t2 (List.mem_of_getElem? (i := 95) rfl) rfl
theorem uu447 : (.selects RX0 yX0_turnsBy yX0_turnsBy : Cond) ∈ UU := uu_t2 (List.mem_of_getElem? (i := 96) rfl) rfl
theorem uu448 : (.code yX0_turnsBy cX0_turnsBy 3 (some .boolean) : Cond) ∈ UU := uu_t2 (List.mem_of_getElem? (i := 97) rfl) rfl
theorem uu450 : (.methodLink RX0 50 yX2_turned : Cond) ∈ UU := uu_t2 (List.mem_of_getElem? (i := 98) rfl) rfl
theorem uu452 : (.static yX2_turned : Cond) ∈ UU := uu_t2 (List.mem_of_getElem? (i := 99) rfl) rfl
theorem uu453 : (.code yX2_turned cX2_turned 4 (some .int) : Cond) ∈ UU := uu_t2 (List.mem_of_getElem? (i := 100) rfl) rfl
theorem uu455 : (.methodLink RX4 73 yX0_renews : Cond) ∈ UU := uu_t2 (List.mem_of_getElem? (i := 101) rfl) rfl
theorem uu457 : (.instanceMethod yX0_renews : Cond) ∈ UU := uu_t2 (List.mem_of_getElem? (i := 102) rfl) rfl
theorem uu458 : (.selects RX0 yX0_renews yX0_renews : Cond) ∈ UU := uu_t2 (List.mem_of_getElem? (i := 103) rfl) rfl
theorem uu459 : (.code yX0_renews cX0_renews 1 (some .boolean) : Cond) ∈ UU := uu_t2 (List.mem_of_getElem? (i := 104) rfl) rfl
theorem uu461 : (.methodLink RX5 277 yX4_formAt : Cond) ∈ UU := uu_t2 (List.mem_of_getElem? (i := 105) rfl) rfl
theorem uu463 : (.methodLink RX5 281 yJ0_length_8abf5 : Cond) ∈ UU := uu_t2 (List.mem_of_getElem? (i := 106) rfl) rfl
theorem uu465 : (.methodLink RX5 239 yJ9_max_7cf53 : Cond) ∈ UU := uu_t2 (List.mem_of_getElem? (i := 107) rfl) rfl
theorem uu467 : (.arrayClass .byte : Cond) ∈ UU := uu_t2 (List.mem_of_getElem? (i := 108) rfl) rfl
theorem uu468 : (.methodLink RL 23 yX5_cell : Cond) ∈ UU := uu_t2 (List.mem_of_getElem? (i := 109) rfl) rfl
theorem uu470 : (.instanceMethod yX5_cell : Cond) ∈ UU := uu_t2 (List.mem_of_getElem? (i := 110) rfl) rfl
theorem uu471 : (.selects RX5 yX5_cell yX5_cell : Cond) ∈ UU := uu_t2 (List.mem_of_getElem? (i := 111) rfl) rfl
theorem uu472 : (.code yX5_cell cX5_cell 4 (some .int) : Cond) ∈ UU := uu_t2 (List.mem_of_getElem? (i := 112) rfl) rfl
theorem uu474 : (.methodLink RX5 72 yX5_isCell : Cond) ∈ UU := uu_t2 (List.mem_of_getElem? (i := 113) rfl) rfl
theorem uu476 : (.methodLink RX5 79 yX2_besides : Cond) ∈ UU := uu_t2 (List.mem_of_getElem? (i := 114) rfl) rfl
theorem uu478 : (.static yX2_besides : Cond) ∈ UU := uu_t2 (List.mem_of_getElem? (i := 115) rfl) rfl
theorem uu479 : (.code yX2_besides cX2_besides 2 (some .int) : Cond) ∈ UU := uu_t2 (List.mem_of_getElem? (i := 116) rfl) rfl
theorem uu481 : (.constant RX2 19 (-1082402) : Cond) ∈ UU := uu_t2 (List.mem_of_getElem? (i := 117) rfl) rfl
theorem uu483 : (.constant RX2 20 (-17318417) : Cond) ∈ UU := uu_t2 (List.mem_of_getElem? (i := 118) rfl) rfl
theorem uu485 : (.constant RX2 21 (33554431) : Cond) ∈ UU := uu_t2 (List.mem_of_getElem? (i := 119) rfl) rfl
theorem uu487 : (.methodLink RX5 84 yJ6_bitCount_0f7a4 : Cond) ∈ UU := uu_t2 (List.mem_of_getElem? (i := 120) rfl) rfl
theorem uu489 : (.static yJ6_bitCount_0f7a4 : Cond) ∈ UU := uu_t2 (List.mem_of_getElem? (i := 121) rfl) rfl
theorem uu490 : (.code yJ6_bitCount_0f7a4 cJ6_bitCount_0f7a4 1 (some .int) : Cond) ∈ UU := uu_t2 (List.mem_of_getElem? (i := 122) rfl) rfl
theorem uu492 : (.constant RJ6 265 (1431655765) : Cond) ∈ UU := uu_t2 (List.mem_of_getElem? (i := 123) rfl) rfl
theorem uu494 : (.constant RJ6 266 (858993459) : Cond) ∈ UU := uu_t2 (List.mem_of_getElem? (i := 124) rfl) rfl
theorem uu496 : (.constant RJ6 267 (252645135) : Cond) ∈ UU := uu_t2 (List.mem_of_getElem? (i := 125) rfl) rfl
theorem uu498 : (.methodLink RX5 89 yX2_heapOf : Cond) ∈ UU := uu_t2 (List.mem_of_getElem? (i := 126) rfl) rfl
theorem uu500 : (.static yX2_heapOf : Cond) ∈ UU := uu_t2 (List.mem_of_getElem? (i := 127) rfl) rfl
theorem uu501 : (.code yX2_heapOf cX2_heapOf 5 (some .int) : Cond) ∈ UU := uu_t2 (List.mem_of_getElem? (i := 128) rfl) rfl
theorem uu503 : (.methodLink RX2 22 yX2_besides : Cond) ∈ UU := uu_t2 (List.mem_of_getElem? (i := 129) rfl) rfl
theorem uu505 : (.methodLink RL 28 yX5_heir : Cond) ∈ UU := uu_t2 (List.mem_of_getElem? (i := 130) rfl) rfl
theorem uu507 : (.instanceMethod yX5_heir : Cond) ∈ UU := uu_t2 (List.mem_of_getElem? (i := 131) rfl) rfl
theorem uu508 : (.selects RX5 yX5_heir yX5_heir : Cond) ∈ UU := uu_t2 (List.mem_of_getElem? (i := 132) rfl) rfl
theorem uu509 : (.code yX5_heir cX5_heir 3 (some .int) : Cond) ∈ UU := uu_t2 (List.mem_of_getElem? (i := 133) rfl) rfl
theorem uu511 : (.methodLink RX5 93 yX5_isHeir : Cond) ∈ UU := uu_t2 (List.mem_of_getElem? (i := 134) rfl) rfl
theorem uu513 : (.instanceMethod yX5_isHeir : Cond) ∈ UU := uu_t2 (List.mem_of_getElem? (i := 136) rfl) rfl
theorem uu514 : (.code yX5_isHeir cX5_isHeir 2 (some .boolean) : Cond) ∈ UU := uu_t2 (List.mem_of_getElem? (i := 137) rfl) rfl
theorem uu516 : (.methodLink RX5 102 yX5_shareOf : Cond) ∈ UU := uu_t2 (List.mem_of_getElem? (i := 138) rfl) rfl
theorem uu518 : (.instanceMethod yX5_shareOf : Cond) ∈ UU := uu_t2 (List.mem_of_getElem? (i := 140) rfl) rfl
theorem uu519 : (.code yX5_shareOf cX5_shareOf 3 (some .int) : Cond) ∈ UU := uu_t2 (List.mem_of_getElem? (i := 141) rfl) rfl
theorem uu521 : (.methodLink RX5 134 yX3_reads : Cond) ∈ UU := uu_t2 (List.mem_of_getElem? (i := 142) rfl) rfl
theorem uu523 : (.instanceMethod yX3_reads : Cond) ∈ UU := uu_t2 (List.mem_of_getElem? (i := 143) rfl) rfl
theorem uu524 : (.selects RX3 yX3_reads yX3_reads : Cond) ∈ UU := uu_t2 (List.mem_of_getElem? (i := 144) rfl) rfl
theorem uu525 : (.code yX3_reads cX3_reads 7 none : Cond) ∈ UU := uu_t2 (List.mem_of_getElem? (i := 145) rfl) rfl
theorem uu527 : (.methodLink RX3 9 yJ6_bitCount_0f7a4 : Cond) ∈ UU := uu_t2 (List.mem_of_getElem? (i := 146) rfl) rfl
theorem uu529 : (.methodLink RX3 30 yX2_heapOf : Cond) ∈ UU := uu_t2 (List.mem_of_getElem? (i := 147) rfl) rfl
theorem uu531 : (.methodLink RX3 36 yJ9_max_7cf53 : Cond) ∈ UU := uu_t2 (List.mem_of_getElem? (i := 148) rfl) rfl
theorem uu533 : (.methodLink RX5 261 yX5_readShare : Cond) ∈ UU := uu_t2 (List.mem_of_getElem? (i := 149) rfl) rfl
theorem uu535 : (.instanceMethod yX5_readShare : Cond) ∈ UU := uu_t2 (List.mem_of_getElem? (i := 151) rfl) rfl
theorem uu536 : (.code yX5_readShare cX5_readShare 2 (some .int) : Cond) ∈ UU := uu_t2 (List.mem_of_getElem? (i := 152) rfl) rfl
theorem uu538 : (.methodLink RX5 264 yX3_shareBy : Cond) ∈ UU := uu_t2 (List.mem_of_getElem? (i := 153) rfl) rfl
theorem uu540 : (.instanceMethod yX3_shareBy : Cond) ∈ UU := uu_t2 (List.mem_of_getElem? (i := 154) rfl) rfl
theorem uu541 : (.selects RX3 yX3_shareBy yX3_shareBy : Cond) ∈ UU := uu_t2 (List.mem_of_getElem? (i := 155) rfl) rfl
theorem uu542 : (.code yX3_shareBy cX3_shareBy 6 (some .int) : Cond) ∈ UU := uu_t2 (List.mem_of_getElem? (i := 156) rfl) rfl
theorem uu544 : (.methodLink RX3 41 yX3_isInChancery : Cond) ∈ UU := uu_t2 (List.mem_of_getElem? (i := 157) rfl) rfl
theorem uu546 : (.instanceMethod yX3_isInChancery : Cond) ∈ UU := uu_t2 (List.mem_of_getElem? (i := 158) rfl) rfl
theorem uu547 : (.selects RX3 yX3_isInChancery yX3_isInChancery : Cond) ∈ UU := uu_t2 (List.mem_of_getElem? (i := 159) rfl) rfl
theorem uu548 : (.code yX3_isInChancery cX3_isInChancery 1 (some .boolean) : Cond) ∈ UU := uu_t2 (List.mem_of_getElem? (i := 160) rfl) rfl
theorem uu550 : (.constant RX3 45 (1082401) : Cond) ∈ UU := uu_t2 (List.mem_of_getElem? (i := 161) rfl) rfl
theorem uu552 : (.methodLink RL 32 yX5_bites : Cond) ∈ UU := uu_t2 (List.mem_of_getElem? (i := 162) rfl) rfl
theorem uu554 : (.instanceMethod yX5_bites : Cond) ∈ UU := uu_t2 (List.mem_of_getElem? (i := 163) rfl) rfl
theorem uu555 : (.selects RX5 yX5_bites yX5_bites : Cond) ∈ UU := uu_t2 (List.mem_of_getElem? (i := 164) rfl) rfl
theorem uu556 : (.code yX5_bites cX5_bites 3 (some .int) : Cond) ∈ UU := uu_t2 (List.mem_of_getElem? (i := 165) rfl) rfl
theorem uu558 : (.methodLink RX5 105 yX0_takesBite : Cond) ∈ UU := uu_t2 (List.mem_of_getElem? (i := 166) rfl) rfl
theorem uu560 : (.methodLink RL 36 yX5_heals : Cond) ∈ UU := uu_t2 (List.mem_of_getElem? (i := 167) rfl) rfl
theorem uu562 : (.instanceMethod yX5_heals : Cond) ∈ UU := uu_t2 (List.mem_of_getElem? (i := 168) rfl) rfl
theorem uu563 : (.selects RX5 yX5_heals yX5_heals : Cond) ∈ UU := uu_t2 (List.mem_of_getElem? (i := 169) rfl) rfl
theorem uu564 : (.code yX5_heals cX5_heals 2 (some .int) : Cond) ∈ UU := uu_t2 (List.mem_of_getElem? (i := 170) rfl) rfl
theorem uu566 : (.methodLink RX5 109 yX5_isLeft : Cond) ∈ UU := uu_t2 (List.mem_of_getElem? (i := 171) rfl) rfl
theorem uu568 : (.instanceMethod yX5_isLeft : Cond) ∈ UU := uu_t2 (List.mem_of_getElem? (i := 173) rfl) rfl
theorem uu569 : (.code yX5_isLeft cX5_isLeft 2 (some .boolean) : Cond) ∈ UU := uu_t2 (List.mem_of_getElem? (i := 174) rfl) rfl
theorem uu571 : (.methodLink RX5 112 yX0_mends : Cond) ∈ UU := uu_t2 (List.mem_of_getElem? (i := 175) rfl) rfl
theorem uu573 : (.methodLink RL 40 yX5_rolls : Cond) ∈ UU := uu_t2 (List.mem_of_getElem? (i := 176) rfl) rfl
theorem uu575 : (.instanceMethod yX5_rolls : Cond) ∈ UU := uu_t2 (List.mem_of_getElem? (i := 177) rfl) rfl
theorem uu576 : (.selects RX5 yX5_rolls yX5_rolls : Cond) ∈ UU := uu_t2 (List.mem_of_getElem? (i := 178) rfl) rfl
theorem uu577 : (.code yX5_rolls cX5_rolls 2 (some .int) : Cond) ∈ UU := uu_t2 (List.mem_of_getElem? (i := 179) rfl) rfl
theorem uu579 : (.methodLink RX5 115 yX0_turnsBy : Cond) ∈ UU := uu_t2 (List.mem_of_getElem? (i := 180) rfl) rfl
theorem uu581 : (.methodLink RL 44 yX5_turn : Cond) ∈ UU := uu_t2 (List.mem_of_getElem? (i := 181) rfl) rfl
theorem uu583 : (.instanceMethod yX5_turn : Cond) ∈ UU := uu_t2 (List.mem_of_getElem? (i := 182) rfl) rfl
theorem uu584 : (.selects RX5 yX5_turn yX5_turn : Cond) ∈ UU := uu_t2 (List.mem_of_getElem? (i := 183) rfl) rfl
theorem uu585 : (.code yX5_turn cX5_turn 5 (some .int) : Cond) ∈ UU := uu_t2 (List.mem_of_getElem? (i := 184) rfl) rfl
theorem uu587 : (.methodLink RL 49 yX5_anew : Cond) ∈ UU := uu_t2 (List.mem_of_getElem? (i := 185) rfl) rfl
theorem uu589 : (.instanceMethod yX5_anew : Cond) ∈ UU := uu_t2 (List.mem_of_getElem? (i := 186) rfl) rfl
theorem uu590 : (.selects RX5 yX5_anew yX5_anew : Cond) ∈ UU := uu_t2 (List.mem_of_getElem? (i := 187) rfl) rfl
theorem uu591 : (.code yX5_anew cX5_anew 2 (some .int) : Cond) ∈ UU := uu_t2 (List.mem_of_getElem? (i := 188) rfl) rfl
theorem uu593 : (.methodLink RX5 121 yX0_renews : Cond) ∈ UU := uu_t2 (List.mem_of_getElem? (i := 189) rfl) rfl
theorem uu595 : (.methodLink RL 53 yX5_shares : Cond) ∈ UU := uu_t2 (List.mem_of_getElem? (i := 190) rfl) rfl
theorem uu597 : (.instanceMethod yX5_shares : Cond) ∈ UU := uu_t2 (List.mem_of_getElem? (i := 191) rfl) rfl
theorem uu598 : (.selects RX5 yX5_shares yX5_shares : Cond) ∈ UU := uu_t2 (List.mem_of_getElem? (i := 192) rfl) rfl
theorem uu599 : (.code yX5_shares cX5_shares 2 (some .int) : Cond) ∈ UU := uu_t2 (List.mem_of_getElem? (i := 193) rfl) rfl
theorem uu601 : (.methodLink RX5 125 yX5_isTwofold : Cond) ∈ UU := uu_t2 (List.mem_of_getElem? (i := 194) rfl) rfl
theorem uu603 : (.static yX5_isTwofold : Cond) ∈ UU := uu_t2 (List.mem_of_getElem? (i := 195) rfl) rfl
theorem uu604 : (.code yX5_isTwofold cX5_isTwofold 1 (some .boolean) : Cond) ∈ UU := uu_t2 (List.mem_of_getElem? (i := 196) rfl) rfl
theorem uu606 : (.methodLink RX5 128 yX5_sharesTogether : Cond) ∈ UU := uu_t2 (List.mem_of_getElem? (i := 197) rfl) rfl
theorem uu608 : (.instanceMethod yX5_sharesTogether : Cond) ∈ UU := uu_t2 (List.mem_of_getElem? (i := 199) rfl) rfl
theorem uu609 : (.code yX5_sharesTogether cX5_sharesTogether 4 (some .int) : Cond) ∈ UU := uu_t2 (List.mem_of_getElem? (i := 200) rfl) rfl
theorem uu611 : (.methodLink RX5 131 yX5_richest : Cond) ∈ UU := uu_t2 (List.mem_of_getElem? (i := 201) rfl) rfl
theorem uu613 : (.instanceMethod yX5_richest : Cond) ∈ UU := uu_t2 (List.mem_of_getElem? (i := 203) rfl) rfl
theorem uu614 : (.code yX5_richest cX5_richest 5 (some .int) : Cond) ∈ UU := uu_t2 (List.mem_of_getElem? (i := 204) rfl) rfl
theorem uu616 : (.methodLink RL 57 yX5_pieces : Cond) ∈ UU := uu_t2 (List.mem_of_getElem? (i := 205) rfl) rfl
theorem uu618 : (.instanceMethod yX5_pieces : Cond) ∈ UU := uu_t2 (List.mem_of_getElem? (i := 206) rfl) rfl
theorem uu619 : (.selects RX5 yX5_pieces yX5_pieces : Cond) ∈ UU := uu_t2 (List.mem_of_getElem? (i := 207) rfl) rfl
theorem uu620 : (.code yX5_pieces cX5_pieces 2 (some .int) : Cond) ∈ UU := uu_t2 (List.mem_of_getElem? (i := 208) rfl) rfl
theorem uu622 : (.methodLink RX5 144 yX3_isInChancery : Cond) ∈ UU := uu_t2 (List.mem_of_getElem? (i := 209) rfl) rfl
theorem uu624 : (.methodLink RX5 150 yX2_leastCell : Cond) ∈ UU := uu_t2 (List.mem_of_getElem? (i := 210) rfl) rfl
theorem uu626 : (.static yX2_leastCell : Cond) ∈ UU := uu_t2 (List.mem_of_getElem? (i := 211) rfl) rfl
theorem uu627 : (.code yX2_leastCell cX2_leastCell 1 (some .int) : Cond) ∈ UU := uu_t2 (List.mem_of_getElem? (i := 212) rfl) rfl
theorem uu629 : (.methodLink RX2 30 yJ6_bitCount_0f7a4 : Cond) ∈ UU := uu_t2 (List.mem_of_getElem? (i := 213) rfl) rfl
theorem uu631 : (.methodLink RL 61 yX5_edge : Cond) ∈ UU := uu_t2 (List.mem_of_getElem? (i := 214) rfl) rfl
theorem uu633 : (.instanceMethod yX5_edge : Cond) ∈ UU := uu_t2 (List.mem_of_getElem? (i := 215) rfl) rfl
theorem uu634 : (.selects RX5 yX5_edge yX5_edge : Cond) ∈ UU := uu_t2 (List.mem_of_getElem? (i := 216) rfl) rfl
theorem uu635 : (.code yX5_edge cX5_edge 2 (some .int) : Cond) ∈ UU := uu_t2 (List.mem_of_getElem? (i := 217) rfl) rfl
theorem uu637 : (.methodLink RX5 153 yX2_openSides : Cond) ∈ UU := uu_t2 (List.mem_of_getElem? (i := 218) rfl) rfl
theorem uu639 : (.static yX2_openSides : Cond) ∈ UU := uu_t2 (List.mem_of_getElem? (i := 219) rfl) rfl
theorem uu640 : (.code yX2_openSides cX2_openSides 3 (some .int) : Cond) ∈ UU := uu_t2 (List.mem_of_getElem? (i := 220) rfl) rfl
theorem uu642 : (.methodLink RX5 156 yX2_holesOf : Cond) ∈ UU := uu_t2 (List.mem_of_getElem? (i := 221) rfl) rfl
theorem uu644 : (.static yX2_holesOf : Cond) ∈ UU := uu_t2 (List.mem_of_getElem? (i := 222) rfl) rfl
theorem uu645 : (.code yX2_holesOf cX2_holesOf 5 (some .int) : Cond) ∈ UU := uu_t2 (List.mem_of_getElem? (i := 223) rfl) rfl
theorem uu647 : (.methodLink RX2 26 yX2_heapOf : Cond) ∈ UU := uu_t2 (List.mem_of_getElem? (i := 224) rfl) rfl
theorem uu649 : (.constant RX2 29 (33080895) : Cond) ∈ UU := uu_t2 (List.mem_of_getElem? (i := 225) rfl) rfl
theorem uu651 : (.methodLink RL 81 yX5_can : Cond) ∈ UU := uu_t2 (List.mem_of_getElem? (i := 226) rfl) rfl
theorem uu653 : (.instanceMethod yX5_can : Cond) ∈ UU := uu_t2 (List.mem_of_getElem? (i := 227) rfl) rfl
theorem uu654 : (.selects RX5 yX5_can yX5_can : Cond) ∈ UU := uu_t2 (List.mem_of_getElem? (i := 228) rfl) rfl
theorem uu655 : (.code yX5_can cX5_can 6 (some .int) : Cond) ∈ UU := uu_t2 (List.mem_of_getElem? (i := 229) rfl) rfl
theorem uu657 : (.methodLink RX5 159 yX2_behind : Cond) ∈ UU := uu_t2 (List.mem_of_getElem? (i := 230) rfl) rfl
theorem uu659 : (.static yX2_behind : Cond) ∈ UU := uu_t2 (List.mem_of_getElem? (i := 231) rfl) rfl
theorem uu660 : (.code yX2_behind cX2_behind 3 (some .int) : Cond) ∈ UU := uu_t2 (List.mem_of_getElem? (i := 232) rfl) rfl
theorem uu662 : (.methodLink RX2 13 yX2_cellsOf : Cond) ∈ UU := uu_t2 (List.mem_of_getElem? (i := 233) rfl) rfl
theorem uu664 : (.methodLink RL 85 yX5_ways : Cond) ∈ UU := uu_t2 (List.mem_of_getElem? (i := 234) rfl) rfl
theorem uu666 : (.instanceMethod yX5_ways : Cond) ∈ UU := uu_t2 (List.mem_of_getElem? (i := 235) rfl) rfl
theorem uu667 : (.selects RX5 yX5_ways yX5_ways : Cond) ∈ UU := uu_t2 (List.mem_of_getElem? (i := 236) rfl) rfl
theorem uu668 : (.code yX5_ways cX5_ways 2 (some .int) : Cond) ∈ UU := uu_t2 (List.mem_of_getElem? (i := 237) rfl) rfl
theorem uu670 : (.methodLink RX5 162 yX1_covers : Cond) ∈ UU := uu_t2 (List.mem_of_getElem? (i := 238) rfl) rfl
theorem uu672 : (.instanceMethod yX1_covers : Cond) ∈ UU := uu_t2 (List.mem_of_getElem? (i := 239) rfl) rfl
theorem uu673 : (.selects RX1 yX1_covers yX1_covers : Cond) ∈ UU := uu_t3 (List.mem_of_getElem? (i := 0) rfl) rfl
theorem uu674 : (.code yX1_covers cX1_covers 4 none : Cond) ∈ UU := uu_t3 (List.mem_of_getElem? (i := 1) rfl) rfl
theorem uu676 : (.methodLink RX1 24 yX1_empties : Cond) ∈ UU := uu_t3 (List.mem_of_getElem? (i := 2) rfl) rfl
theorem uu678 : (.instanceMethod yX1_empties : Cond) ∈ UU := uu_t3 (List.mem_of_getElem? (i := 4) rfl) rfl
theorem uu679 : (.code yX1_empties cX1_empties 2 none : Cond) ∈ UU := uu_t3 (List.mem_of_getElem? (i := 5) rfl) rfl
theorem uu681 : (.methodLink RX1 27 yX1_comesTo : Cond) ∈ UU := uu_t3 (List.mem_of_getElem? (i := 6) rfl) rfl
theorem uu683 : (.instanceMethod yX1_comesTo : Cond) ∈ UU := uu_t3 (List.mem_of_getElem? (i := 8) rfl) rfl
theorem uu684 : (.code yX1_comesTo cX1_comesTo 4 none : Cond) ∈ UU := uu_t3 (List.mem_of_getElem? (i := 9) rfl) rfl
theorem uu686 : (.constant RX1 43 (1000003) : Cond) ∈ UU := uu_t3 (List.mem_of_getElem? (i := 10) rfl) rfl
theorem uu688 : (.methodLink RX1 44 yJ9_min_7cf53 : Cond) ∈ UU := uu_t3 (List.mem_of_getElem? (i := 11) rfl) rfl
theorem uu690 : (.methodLink RX1 31 yX1_steps : Cond) ∈ UU := uu_t3 (List.mem_of_getElem? (i := 12) rfl) rfl
theorem uu692 : (.instanceMethod yX1_steps : Cond) ∈ UU := uu_t3 (List.mem_of_getElem? (i := 14) rfl) rfl
theorem uu693 : (.code yX1_steps cX1_steps 3 none : Cond) ∈ UU := uu_t3 (List.mem_of_getElem? (i := 15) rfl) rfl
theorem uu695 : (.methodLink RX1 34 yX1_goesOn : Cond) ∈ UU := uu_t3 (List.mem_of_getElem? (i := 16) rfl) rfl
theorem uu697 : (.instanceMethod yX1_goesOn : Cond) ∈ UU := uu_t3 (List.mem_of_getElem? (i := 18) rfl) rfl
theorem uu698 : (.code yX1_goesOn cX1_goesOn 7 none : Cond) ∈ UU := uu_t3 (List.mem_of_getElem? (i := 19) rfl) rfl
theorem uu700 : (.methodLink RX1 37 yX2_cellsOf : Cond) ∈ UU := uu_t3 (List.mem_of_getElem? (i := 20) rfl) rfl
theorem uu702 : (.methodLink RX5 165 yX1_waysDone : Cond) ∈ UU := uu_t3 (List.mem_of_getElem? (i := 21) rfl) rfl
theorem uu704 : (.instanceMethod yX1_waysDone : Cond) ∈ UU := uu_t3 (List.mem_of_getElem? (i := 22) rfl) rfl
theorem uu705 : (.selects RX1 yX1_waysDone yX1_waysDone : Cond) ∈ UU := uu_t3 (List.mem_of_getElem? (i := 23) rfl) rfl
theorem uu706 : (.code yX1_waysDone cX1_waysDone 1 (some .int) : Cond) ∈ UU := uu_t3 (List.mem_of_getElem? (i := 24) rfl) rfl
theorem uu708 : (.methodLink RX5 168 yX1_fewDone : Cond) ∈ UU := uu_t3 (List.mem_of_getElem? (i := 25) rfl) rfl
theorem uu710 : (.instanceMethod yX1_fewDone : Cond) ∈ UU := uu_t3 (List.mem_of_getElem? (i := 26) rfl) rfl
theorem uu711 : (.selects RX1 yX1_fewDone yX1_fewDone : Cond) ∈ UU := uu_t3 (List.mem_of_getElem? (i := 27) rfl) rfl
theorem uu712 : (.code yX1_fewDone cX1_fewDone 1 (some .int) : Cond) ∈ UU := uu_t3 (List.mem_of_getElem? (i := 28) rfl) rfl
theorem uu714 : (.methodLink RL 89 yX5_alike : Cond) ∈ UU := uu_t3 (List.mem_of_getElem? (i := 29) rfl) rfl
theorem uu716 : (.instanceMethod yX5_alike : Cond) ∈ UU := uu_t3 (List.mem_of_getElem? (i := 30) rfl) rfl
theorem uu717 : (.selects RX5 yX5_alike yX5_alike : Cond) ∈ UU := uu_t3 (List.mem_of_getElem? (i := 31) rfl) rfl
theorem uu718 : (.code yX5_alike cX5_alike 5 (some .int) : Cond) ∈ UU := uu_t3 (List.mem_of_getElem? (i := 32) rfl) rfl
theorem uu720 : (.methodLink RX5 171 yX2_turned : Cond) ∈ UU := uu_t3 (List.mem_of_getElem? (i := 33) rfl) rfl
theorem uu722 : (.methodLink RX5 174 yJ9_min_7cf53 : Cond) ∈ UU := uu_t3 (List.mem_of_getElem? (i := 34) rfl) rfl
theorem uu724 : (.methodLink RL 93 yX5_settles : Cond) ∈ UU := uu_t3 (List.mem_of_getElem? (i := 35) rfl) rfl
theorem uu726 : (.instanceMethod yX5_settles : Cond) ∈ UU := uu_t3 (List.mem_of_getElem? (i := 36) rfl) rfl
theorem uu727 : (.selects RX5 yX5_settles yX5_settles : Cond) ∈ UU := uu_t3 (List.mem_of_getElem? (i := 37) rfl) rfl
theorem uu728 : (.code yX5_settles cX5_settles 4 (some .int) : Cond) ∈ UU := uu_t3 (List.mem_of_getElem? (i := 38) rfl) rfl
theorem uu730 : (.methodLink RX5 179 yX5_isSettled : Cond) ∈ UU := uu_t3 (List.mem_of_getElem? (i := 39) rfl) rfl
theorem uu732 : (.instanceMethod yX5_isSettled : Cond) ∈ UU := uu_t3 (List.mem_of_getElem? (i := 41) rfl) rfl
theorem uu733 : (.code yX5_isSettled cX5_isSettled 2 (some .boolean) : Cond) ∈ UU := uu_t3 (List.mem_of_getElem? (i := 42) rfl) rfl
theorem uu735 : (.methodLink RX5 182 yX5_firstCellThatSettles : Cond) ∈ UU := uu_t3 (List.mem_of_getElem? (i := 43) rfl) rfl
theorem uu737 : (.instanceMethod yX5_firstCellThatSettles : Cond) ∈ UU := uu_t3 (List.mem_of_getElem? (i := 45) rfl) rfl
theorem uu738 : (.code yX5_firstCellThatSettles cX5_firstCellThatSettles 5 (some .int) : Cond) ∈ UU := uu_t3 (List.mem_of_getElem? (i := 46) rfl) rfl
theorem uu740 : (.methodLink RX5 185 yX5_firstOfTwoThatSettle : Cond) ∈ UU := uu_t3 (List.mem_of_getElem? (i := 47) rfl) rfl
theorem uu742 : (.instanceMethod yX5_firstOfTwoThatSettle : Cond) ∈ UU := uu_t3 (List.mem_of_getElem? (i := 49) rfl) rfl
theorem uu743 : (.code yX5_firstOfTwoThatSettle cX5_firstOfTwoThatSettle 2 (some .int) : Cond) ∈ UU := uu_t3 (List.mem_of_getElem? (i := 50) rfl) rfl
theorem uu745 : (.methodLink RL 97 yX5_pips : Cond) ∈ UU := uu_t3 (List.mem_of_getElem? (i := 51) rfl) rfl
theorem uu747 : (.instanceMethod yX5_pips : Cond) ∈ UU := uu_t3 (List.mem_of_getElem? (i := 52) rfl) rfl
theorem uu748 : (.selects RX5 yX5_pips yX5_pips : Cond) ∈ UU := uu_t3 (List.mem_of_getElem? (i := 53) rfl) rfl
theorem uu749 : (.code yX5_pips cX5_pips 2 (some .int) : Cond) ∈ UU := uu_t3 (List.mem_of_getElem? (i := 54) rfl) rfl
theorem uu751 : (.methodLink RL 109 yX5_join : Cond) ∈ UU := uu_t3 (List.mem_of_getElem? (i := 55) rfl) rfl
theorem uu753 : (.instanceMethod yX5_join : Cond) ∈ UU := uu_t3 (List.mem_of_getElem? (i := 56) rfl) rfl
theorem uu754 : (.selects RX5 yX5_join yX5_join : Cond) ∈ UU := uu_t3 (List.mem_of_getElem? (i := 57) rfl) rfl
theorem uu755 : (.code yX5_join cX5_join 2 (some .int) : Cond) ∈ UU := uu_t3 (List.mem_of_getElem? (i := 58) rfl) rfl
theorem uu757 : (.methodLink RX5 188 yX2_heapsOf : Cond) ∈ UU := uu_t3 (List.mem_of_getElem? (i := 59) rfl) rfl
theorem uu759 : (.static yX2_heapsOf : Cond) ∈ UU := uu_t3 (List.mem_of_getElem? (i := 60) rfl) rfl
theorem uu760 : (.code yX2_heapsOf cX2_heapsOf 4 (some .int) : Cond) ∈ UU := uu_t3 (List.mem_of_getElem? (i := 61) rfl) rfl
theorem uu762 : (.methodLink RL 113 yX5_bridge : Cond) ∈ UU := uu_t3 (List.mem_of_getElem? (i := 62) rfl) rfl
theorem uu764 : (.instanceMethod yX5_bridge : Cond) ∈ UU := uu_t3 (List.mem_of_getElem? (i := 63) rfl) rfl
theorem uu765 : (.selects RX5 yX5_bridge yX5_bridge : Cond) ∈ UU := uu_t3 (List.mem_of_getElem? (i := 64) rfl) rfl
theorem uu766 : (.code yX5_bridge cX5_bridge 3 (some .int) : Cond) ∈ UU := uu_t3 (List.mem_of_getElem? (i := 65) rfl) rfl
theorem uu768 : (.methodLink RX5 191 yX2_middleOf : Cond) ∈ UU := uu_t3 (List.mem_of_getElem? (i := 66) rfl) rfl
theorem uu770 : (.static yX2_middleOf : Cond) ∈ UU := uu_t3 (List.mem_of_getElem? (i := 67) rfl) rfl
theorem uu771 : (.code yX2_middleOf cX2_middleOf 5 (some .int) : Cond) ∈ UU := uu_t3 (List.mem_of_getElem? (i := 68) rfl) rfl
theorem uu773 : (.methodLink RX2 35 yX2_stepsToAll : Cond) ∈ UU := uu_t3 (List.mem_of_getElem? (i := 69) rfl) rfl
theorem uu775 : (.static yX2_stepsToAll : Cond) ∈ UU := uu_t3 (List.mem_of_getElem? (i := 70) rfl) rfl
theorem uu776 : (.code yX2_stepsToAll cX2_stepsToAll 4 (some .int) : Cond) ∈ UU := uu_t3 (List.mem_of_getElem? (i := 71) rfl) rfl
theorem uu778 : (.methodLink RX2 38 yJ9_abs_0f7a4 : Cond) ∈ UU := uu_t3 (List.mem_of_getElem? (i := 72) rfl) rfl
theorem uu780 : (.static yJ9_abs_0f7a4 : Cond) ∈ UU := uu_t3 (List.mem_of_getElem? (i := 73) rfl) rfl
theorem uu781 : (.code yJ9_abs_0f7a4 cJ9_abs_0f7a4 1 (some .int) : Cond) ∈ UU := uu_t3 (List.mem_of_getElem? (i := 74) rfl) rfl
theorem uu783 : (.methodLink RX5 194 yX5_bridgesOf : Cond) ∈ UU := uu_t3 (List.mem_of_getElem? (i := 75) rfl) rfl
theorem uu785 : (.static yX5_bridgesOf : Cond) ∈ UU := uu_t3 (List.mem_of_getElem? (i := 76) rfl) rfl
theorem uu786 : (.code yX5_bridgesOf cX5_bridgesOf 5 (some .int) : Cond) ∈ UU := uu_t3 (List.mem_of_getElem? (i := 77) rfl) rfl
theorem uu788 : (.methodLink RL 65 yX5_best : Cond) ∈ UU := uu_t3 (List.mem_of_getElem? (i := 78) rfl) rfl
theorem uu790 : (.instanceMethod yX5_best : Cond) ∈ UU := uu_t3 (List.mem_of_getElem? (i := 79) rfl) rfl
theorem uu791 : (.selects RX5 yX5_best yX5_best : Cond) ∈ UU := uu_t3 (List.mem_of_getElem? (i := 80) rfl) rfl
theorem uu792 : (.code yX5_best cX5_best 3 (some .int) : Cond) ∈ UU := uu_t3 (List.mem_of_getElem? (i := 81) rfl) rfl
theorem uu794 : (.methodLink RX5 197 yX5_furthestBite : Cond) ∈ UU := uu_t3 (List.mem_of_getElem? (i := 82) rfl) rfl
theorem uu796 : (.instanceMethod yX5_furthestBite : Cond) ∈ UU := uu_t3 (List.mem_of_getElem? (i := 84) rfl) rfl
theorem uu797 : (.code yX5_furthestBite cX5_furthestBite 9 (some .int) : Cond) ∈ UU := uu_t3 (List.mem_of_getElem? (i := 85) rfl) rfl
theorem uu799 : (.methodLink RX5 201 yX5_toldBite : Cond) ∈ UU := uu_t3 (List.mem_of_getElem? (i := 86) rfl) rfl
theorem uu801 : (.instanceMethod yX5_toldBite : Cond) ∈ UU := uu_t3 (List.mem_of_getElem? (i := 88) rfl) rfl
theorem uu802 : (.code yX5_toldBite cX5_toldBite 4 (some .int) : Cond) ∈ UU := uu_t3 (List.mem_of_getElem? (i := 89) rfl) rfl
theorem uu804 : (.methodLink RX5 208 yX5_bitesName : Cond) ∈ UU := uu_t3 (List.mem_of_getElem? (i := 90) rfl) rfl
theorem uu806 : (.static yX5_bitesName : Cond) ∈ UU := uu_t3 (List.mem_of_getElem? (i := 91) rfl) rfl
theorem uu807 : (.code yX5_bitesName cX5_bitesName 1 (some .int) : Cond) ∈ UU := uu_t3 (List.mem_of_getElem? (i := 92) rfl) rfl
theorem uu809 : (.methodLink RL 69 yX5_worst : Cond) ∈ UU := uu_t3 (List.mem_of_getElem? (i := 93) rfl) rfl
theorem uu811 : (.instanceMethod yX5_worst : Cond) ∈ UU := uu_t3 (List.mem_of_getElem? (i := 94) rfl) rfl
theorem uu812 : (.selects RX5 yX5_worst yX5_worst : Cond) ∈ UU := uu_t3 (List.mem_of_getElem? (i := 95) rfl) rfl
theorem uu813 : (.code yX5_worst cX5_worst 3 (some .int) : Cond) ∈ UU := uu_t3 (List.mem_of_getElem? (i := 96) rfl) rfl
theorem uu815 : (.methodLink RL 73 yX5_fewest : Cond) ∈ UU := uu_t3 (List.mem_of_getElem? (i := 97) rfl) rfl
theorem uu817 : (.instanceMethod yX5_fewest : Cond) ∈ UU := uu_t3 (List.mem_of_getElem? (i := 98) rfl) rfl
theorem uu818 : (.selects RX5 yX5_fewest yX5_fewest : Cond) ∈ UU := uu_t3 (List.mem_of_getElem? (i := 99) rfl) rfl
theorem uu819 : (.code yX5_fewest cX5_fewest 6 (some .int) : Cond) ∈ UU := uu_t3 (List.mem_of_getElem? (i := 100) rfl) rfl
theorem uu821 : (.methodLink RX5 204 yX5_firstBiteTo : Cond) ∈ UU := uu_t3 (List.mem_of_getElem? (i := 101) rfl) rfl
theorem uu823 : (.instanceMethod yX5_firstBiteTo : Cond) ∈ UU := uu_t3 (List.mem_of_getElem? (i := 103) rfl) rfl
theorem uu824 : (.code yX5_firstBiteTo cX5_firstBiteTo 7 (some .int) : Cond) ∈ UU := uu_t3 (List.mem_of_getElem? (i := 104) rfl) rfl
theorem uu826 : (.methodLink RX5 211 yX5_firstOfTwoBitesTo : Cond) ∈ UU := uu_t3 (List.mem_of_getElem? (i := 105) rfl) rfl
theorem uu828 : (.instanceMethod yX5_firstOfTwoBitesTo : Cond) ∈ UU := uu_t3 (List.mem_of_getElem? (i := 107) rfl) rfl
theorem uu829 : (.code yX5_firstOfTwoBitesTo cX5_firstOfTwoBitesTo 5 (some .int) : Cond) ∈ UU := uu_t3 (List.mem_of_getElem? (i := 108) rfl) rfl
theorem uu831 : (.methodLink RL 77 yX5_safe : Cond) ∈ UU := uu_t3 (List.mem_of_getElem? (i := 109) rfl) rfl
theorem uu833 : (.instanceMethod yX5_safe : Cond) ∈ UU := uu_t3 (List.mem_of_getElem? (i := 110) rfl) rfl
theorem uu834 : (.selects RX5 yX5_safe yX5_safe : Cond) ∈ UU := uu_t3 (List.mem_of_getElem? (i := 111) rfl) rfl
theorem uu835 : (.code yX5_safe cX5_safe 4 (some .int) : Cond) ∈ UU := uu_t3 (List.mem_of_getElem? (i := 112) rfl) rfl
theorem uu837 : (.methodLink RX5 214 yX5_changesNobody : Cond) ∈ UU := uu_t3 (List.mem_of_getElem? (i := 113) rfl) rfl
theorem uu839 : (.instanceMethod yX5_changesNobody : Cond) ∈ UU := uu_t3 (List.mem_of_getElem? (i := 115) rfl) rfl
theorem uu840 : (.code yX5_changesNobody cX5_changesNobody 3 (some .boolean) : Cond) ∈ UU := uu_t3 (List.mem_of_getElem? (i := 116) rfl) rfl
theorem uu842 : (.methodLink RL 101 yX5_grudge : Cond) ∈ UU := uu_t3 (List.mem_of_getElem? (i := 117) rfl) rfl
theorem uu844 : (.instanceMethod yX5_grudge : Cond) ∈ UU := uu_t3 (List.mem_of_getElem? (i := 118) rfl) rfl
theorem uu845 : (.selects RX5 yX5_grudge yX5_grudge : Cond) ∈ UU := uu_t3 (List.mem_of_getElem? (i := 119) rfl) rfl
theorem uu846 : (.code yX5_grudge cX5_grudge 7 (some .int) : Cond) ∈ UU := uu_t3 (List.mem_of_getElem? (i := 120) rfl) rfl
theorem uu848 : (.methodLink RL 105 yX5_gain : Cond) ∈ UU := uu_t3 (List.mem_of_getElem? (i := 121) rfl) rfl
theorem uu850 : (.instanceMethod yX5_gain : Cond) ∈ UU := uu_t3 (List.mem_of_getElem? (i := 122) rfl) rfl
theorem uu851 : (.selects RX5 yX5_gain yX5_gain : Cond) ∈ UU := uu_t3 (List.mem_of_getElem? (i := 123) rfl) rfl
theorem uu852 : (.code yX5_gain cX5_gain 4 (some .int) : Cond) ∈ UU := uu_t3 (List.mem_of_getElem? (i := 124) rfl) rfl
theorem uu854 : (.methodLink RX5 220 yX5_areTwo : Cond) ∈ UU := uu_t3 (List.mem_of_getElem? (i := 125) rfl) rfl
theorem uu856 : (.instanceMethod yX5_areTwo : Cond) ∈ UU := uu_t3 (List.mem_of_getElem? (i := 127) rfl) rfl
theorem uu857 : (.code yX5_areTwo cX5_areTwo 3 (some .boolean) : Cond) ∈ UU := uu_t3 (List.mem_of_getElem? (i := 128) rfl) rfl
theorem uu859 : (.constant RX5 223 (1000000000) : Cond) ∈ UU := uu_t3 (List.mem_of_getElem? (i := 129) rfl) rfl
theorem uu861 : (.methodLink RL 117 yX5_two : Cond) ∈ UU := uu_t3 (List.mem_of_getElem? (i := 130) rfl) rfl
theorem uu863 : (.instanceMethod yX5_two : Cond) ∈ UU := uu_t3 (List.mem_of_getElem? (i := 131) rfl) rfl
theorem uu864 : (.selects RX5 yX5_two yX5_two : Cond) ∈ UU := uu_t3 (List.mem_of_getElem? (i := 132) rfl) rfl
theorem uu865 : (.code yX5_two cX5_two 5 (some .int) : Cond) ∈ UU := uu_t3 (List.mem_of_getElem? (i := 133) rfl) rfl
theorem uu867 : (.methodLink RX5 224 yX5_chosen : Cond) ∈ UU := uu_t3 (List.mem_of_getElem? (i := 134) rfl) rfl
theorem uu869 : (.instanceMethod yX5_chosen : Cond) ∈ UU := uu_t3 (List.mem_of_getElem? (i := 136) rfl) rfl
theorem uu870 : (.code yX5_chosen cX5_chosen 4 (some .int) : Cond) ∈ UU := uu_t3 (List.mem_of_getElem? (i := 137) rfl) rfl
theorem uu872 : (.methodLink RL 121 yX5_chance : Cond) ∈ UU := uu_t3 (List.mem_of_getElem? (i := 138) rfl) rfl
theorem uu874 : (.instanceMethod yX5_chance : Cond) ∈ UU := uu_t3 (List.mem_of_getElem? (i := 139) rfl) rfl
theorem uu875 : (.selects RX5 yX5_chance yX5_chance : Cond) ∈ UU := uu_t3 (List.mem_of_getElem? (i := 140) rfl) rfl
theorem uu876 : (.code yX5_chance cX5_chance 7 (some .long) : Cond) ∈ UU := uu_t3 (List.mem_of_getElem? (i := 141) rfl) rfl
theorem uu878 : (.constantLong RX5 227 (4000000000000000000) : Cond) ∈ UU := uu_t3 (List.mem_of_getElem? (i := 142) rfl) rfl
theorem uu880 : (.methodLink RX5 229 yX5_partOf : Cond) ∈ UU := uu_t3 (List.mem_of_getElem? (i := 143) rfl) rfl
theorem uu882 : (.static yX5_partOf : Cond) ∈ UU := uu_t3 (List.mem_of_getElem? (i := 144) rfl) rfl
theorem uu883 : (.code yX5_partOf cX5_partOf 7 (some .long) : Cond) ∈ UU := uu_t3 (List.mem_of_getElem? (i := 145) rfl) rfl
theorem uu885 : (.methodLink RX5 233 yX5_singlesTo : Cond) ∈ UU := uu_t3 (List.mem_of_getElem? (i := 146) rfl) rfl
theorem uu887 : (.instanceMethod yX5_singlesTo : Cond) ∈ UU := uu_t3 (List.mem_of_getElem? (i := 148) rfl) rfl
theorem uu888 : (.code yX5_singlesTo cX5_singlesTo 8 (some .int) : Cond) ∈ UU := uu_t3 (List.mem_of_getElem? (i := 149) rfl) rfl
theorem uu890 : (.methodLink RX5 236 yX5_pairsTo : Cond) ∈ UU := uu_t3 (List.mem_of_getElem? (i := 150) rfl) rfl
theorem uu892 : (.instanceMethod yX5_pairsTo : Cond) ∈ UU := uu_t3 (List.mem_of_getElem? (i := 152) rfl) rfl
theorem uu893 : (.code yX5_pairsTo cX5_pairsTo 6 (some .int) : Cond) ∈ UU := uu_t3 (List.mem_of_getElem? (i := 153) rfl) rfl
theorem uu895 : (.methodLink RL 126 yX5_mean : Cond) ∈ UU := uu_t3 (List.mem_of_getElem? (i := 154) rfl) rfl
theorem uu897 : (.instanceMethod yX5_mean : Cond) ∈ UU := uu_t3 (List.mem_of_getElem? (i := 155) rfl) rfl
theorem uu898 : (.selects RX5 yX5_mean yX5_mean : Cond) ∈ UU := uu_t3 (List.mem_of_getElem? (i := 156) rfl) rfl
theorem uu899 : (.code yX5_mean cX5_mean 2 (some .long) : Cond) ∈ UU := uu_t3 (List.mem_of_getElem? (i := 157) rfl) rfl
theorem uu901 : (.methodLink RL 131 yX5_whatIs : Cond) ∈ UU := uu_t3 (List.mem_of_getElem? (i := 158) rfl) rfl
theorem uu903 : (.instanceMethod yX5_whatIs : Cond) ∈ UU := uu_t3 (List.mem_of_getElem? (i := 159) rfl) rfl
theorem uu904 : (.selects RX5 yX5_whatIs yX5_whatIs : Cond) ∈ UU := uu_t3 (List.mem_of_getElem? (i := 160) rfl) rfl
theorem uu905 : (.code yX5_whatIs cX5_whatIs 8 (some .int) : Cond) ∈ UU := uu_t3 (List.mem_of_getElem? (i := 161) rfl) rfl
theorem uu907 : (.methodLink RX5 242 yX5_fitsTold : Cond) ∈ UU := uu_t3 (List.mem_of_getElem? (i := 162) rfl) rfl
theorem uu909 : (.instanceMethod yX5_fitsTold : Cond) ∈ UU := uu_t3 (List.mem_of_getElem? (i := 164) rfl) rfl
theorem uu910 : (.code yX5_fitsTold cX5_fitsTold 5 (some .boolean) : Cond) ∈ UU := uu_t3 (List.mem_of_getElem? (i := 165) rfl) rfl
theorem uu912 : (.methodLink RL 135 yX5_row : Cond) ∈ UU := uu_t3 (List.mem_of_getElem? (i := 166) rfl) rfl
theorem uu914 : (.instanceMethod yX5_row : Cond) ∈ UU := uu_t3 (List.mem_of_getElem? (i := 167) rfl) rfl
theorem uu915 : (.selects RX5 yX5_row yX5_row : Cond) ∈ UU := uu_t3 (List.mem_of_getElem? (i := 168) rfl) rfl
theorem uu916 : (.code yX5_row cX5_row 2 (some .int) : Cond) ∈ UU := uu_t3 (List.mem_of_getElem? (i := 169) rfl) rfl
theorem uu918 : (.methodLink RL 139 yX5_judge : Cond) ∈ UU := uu_t3 (List.mem_of_getElem? (i := 170) rfl) rfl
theorem uu920 : (.instanceMethod yX5_judge : Cond) ∈ UU := uu_t3 (List.mem_of_getElem? (i := 171) rfl) rfl
theorem uu921 : (.selects RX5 yX5_judge yX5_judge : Cond) ∈ UU := uu_t3 (List.mem_of_getElem? (i := 172) rfl) rfl
theorem uu922 : (.code yX5_judge cX5_judge 2 (some .int) : Cond) ∈ UU := uu_t3 (List.mem_of_getElem? (i := 173) rfl) rfl
theorem uu924 : (.methodLink RX5 248 yX5_firstWronglyTold : Cond) ∈ UU := uu_t3 (List.mem_of_getElem? (i := 174) rfl) rfl
theorem uu926 : (.instanceMethod yX5_firstWronglyTold : Cond) ∈ UU := uu_t3 (List.mem_of_getElem? (i := 176) rfl) rfl
theorem uu927 : (.code yX5_firstWronglyTold cX5_firstWronglyTold 2 (some .int) : Cond) ∈ UU := uu_t3 (List.mem_of_getElem? (i := 177) rfl) rfl
theorem uu929 : (.methodLink RL 143 yX5_clear : Cond) ∈ UU := uu_t3 (List.mem_of_getElem? (i := 178) rfl) rfl
theorem uu931 : (.instanceMethod yX5_clear : Cond) ∈ UU := uu_t3 (List.mem_of_getElem? (i := 179) rfl) rfl
theorem uu932 : (.selects RX5 yX5_clear yX5_clear : Cond) ∈ UU := uu_t3 (List.mem_of_getElem? (i := 180) rfl) rfl
theorem uu933 : (.code yX5_clear cX5_clear 2 (some .int) : Cond) ∈ UU := uu_t3 (List.mem_of_getElem? (i := 181) rfl) rfl
theorem uu935 : (.methodLink RL 147 yX5_lots : Cond) ∈ UU := uu_t3 (List.mem_of_getElem? (i := 182) rfl) rfl
theorem uu937 : (.instanceMethod yX5_lots : Cond) ∈ UU := uu_t3 (List.mem_of_getElem? (i := 183) rfl) rfl
theorem uu938 : (.selects RX5 yX5_lots yX5_lots : Cond) ∈ UU := uu_t3 (List.mem_of_getElem? (i := 184) rfl) rfl
theorem uu939 : (.code yX5_lots cX5_lots 12 (some .int) : Cond) ∈ UU := uu_t3 (List.mem_of_getElem? (i := 185) rfl) rfl
theorem uu941 : (.methodLink RX5 251 yX5_nextSeed : Cond) ∈ UU := uu_t3 (List.mem_of_getElem? (i := 186) rfl) rfl
theorem uu943 : (.static yX5_nextSeed : Cond) ∈ UU := uu_t3 (List.mem_of_getElem? (i := 187) rfl) rfl
theorem uu944 : (.code yX5_nextSeed cX5_nextSeed 1 (some .int) : Cond) ∈ UU := uu_t3 (List.mem_of_getElem? (i := 188) rfl) rfl
theorem uu946 : (.constant RX5 267 (1664525) : Cond) ∈ UU := uu_t3 (List.mem_of_getElem? (i := 189) rfl) rfl
theorem uu948 : (.constant RX5 268 (1013904223) : Cond) ∈ UU := uu_t3 (List.mem_of_getElem? (i := 190) rfl) rfl
theorem uu950 : (.methodLink RX5 254 yX5_drawnFrom : Cond) ∈ UU := uu_t3 (List.mem_of_getElem? (i := 191) rfl) rfl
theorem uu952 : (.static yX5_drawnFrom : Cond) ∈ UU := uu_t3 (List.mem_of_getElem? (i := 192) rfl) rfl
theorem uu953 : (.code yX5_drawnFrom cX5_drawnFrom 1 (some .int) : Cond) ∈ UU := uu_t3 (List.mem_of_getElem? (i := 193) rfl) rfl
theorem uu955 : (.constant RX5 269 (2147483647) : Cond) ∈ UU := uu_t3 (List.mem_of_getElem? (i := 194) rfl) rfl
theorem uu957 : (.methodLink RL 151 yX5_image : Cond) ∈ UU := uu_t3 (List.mem_of_getElem? (i := 195) rfl) rfl
theorem uu959 : (.instanceMethod yX5_image : Cond) ∈ UU := uu_t3 (List.mem_of_getElem? (i := 196) rfl) rfl
theorem uu960 : (.selects RX5 yX5_image yX5_image : Cond) ∈ UU := uu_t3 (List.mem_of_getElem? (i := 197) rfl) rfl
theorem uu961 : (.code yX5_image cX5_image 1 (some .int) : Cond) ∈ UU := uu_t3 (List.mem_of_getElem? (i := 198) rfl) rfl
theorem uu963 : (.methodLink RL 155 yX5_on : Cond) ∈ UU := uu_t3 (List.mem_of_getElem? (i := 199) rfl) rfl
theorem uu965 : (.instanceMethod yX5_on : Cond) ∈ UU := uu_t3 (List.mem_of_getElem? (i := 200) rfl) rfl
theorem uu966 : (.selects RX5 yX5_on yX5_on : Cond) ∈ UU := uu_t3 (List.mem_of_getElem? (i := 201) rfl) rfl
theorem uu967 : (.code yX5_on cX5_on 1 (some .int) : Cond) ∈ UU := uu_t3 (List.mem_of_getElem? (i := 202) rfl) rfl
theorem uu969 : (.methodLink RL 159 yX5_count : Cond) ∈ UU := uu_t3 (List.mem_of_getElem? (i := 203) rfl) rfl
theorem uu971 : (.instanceMethod yX5_count : Cond) ∈ UU := uu_t3 (List.mem_of_getElem? (i := 204) rfl) rfl
theorem uu972 : (.selects RX5 yX5_count yX5_count : Cond) ∈ UU := uu_t3 (List.mem_of_getElem? (i := 205) rfl) rfl
theorem uu973 : (.code yX5_count cX5_count 2 (some .int) : Cond) ∈ UU := uu_t3 (List.mem_of_getElem? (i := 206) rfl) rfl
theorem uu975 : (.classLink RL 10 RX6 : Cond) ∈ UU := uu_t3 (List.mem_of_getElem? (i := 207) rfl) rfl
theorem uu976 : (.instantiable RX6 26 : Cond) ∈ UU := uu_t3 (List.mem_of_getElem? (i := 208) rfl) rfl
theorem uu977 : (.methodLink RL 12 yX6_init : Cond) ∈ UU := uu_t3 (List.mem_of_getElem? (i := 209) rfl) rfl
theorem uu979 : (.instanceMethod yX6_init : Cond) ∈ UU := uu_t3 (List.mem_of_getElem? (i := 210) rfl) rfl
theorem uu980 : (.code yX6_init cX6_init 1 none : Cond) ∈ UU := uu_t3 (List.mem_of_getElem? (i := 211) rfl) rfl
theorem uu982 : (.methodLink RX6 1 objectInit : Cond) ∈ UU := uu_t3 (List.mem_of_getElem? (i := 212) rfl) rfl
theorem uu984 : (.constant RX6 9 (33554431) : Cond) ∈ UU := uu_t3 (List.mem_of_getElem? (i := 213) rfl) rfl
theorem uu986 : (.fieldLink RX6 10 "CoresAreWillsModel" "left" "I" : Cond) ∈ UU := uu_t3 (List.mem_of_getElem? (i := 214) rfl) rfl
theorem uu988 : (.fieldLink RX6 124 "CoresAreWillsModel" "bites" "I" : Cond) ∈ UU := uu_t3 (List.mem_of_getElem? (i := 215) rfl) rfl
theorem uu990 : (.fieldLink RX6 62 "CoresAreWillsModel" "many" "I" : Cond) ∈ UU := uu_t3 (List.mem_of_getElem? (i := 216) rfl) rfl
theorem uu992 : (.fieldLink RX6 248 "CoresAreWillsModel" "imageLeft" "I" : Cond) ∈ UU := uu_t3 (List.mem_of_getElem? (i := 217) rfl) rfl
theorem uu994 : (.fieldLink RX6 251 "CoresAreWillsModel" "imageBites" "I" : Cond) ∈ UU := uu_t3 (List.mem_of_getElem? (i := 218) rfl) rfl
theorem uu996 : (.fieldLink RX6 254 "CoresAreWillsModel" "imageMany" "I" : Cond) ∈ UU := uu_t3 (List.mem_of_getElem? (i := 219) rfl) rfl
theorem uu998 : (.fieldLink RX6 147 "CoresAreWillsModel" "wasLeft" "I" : Cond) ∈ UU := uu_t3 (List.mem_of_getElem? (i := 220) rfl) rfl
theorem uu1000 : (.fieldLink RX6 150 "CoresAreWillsModel" "wasBites" "I" : Cond) ∈ UU := uu_t3 (List.mem_of_getElem? (i := 221) rfl) rfl
theorem uu1002 : (.fieldLink RX6 153 "CoresAreWillsModel" "wasMany" "I" : Cond) ∈ UU := uu_t3 (List.mem_of_getElem? (i := 222) rfl) rfl
theorem uu1004 : (.fieldLink RX6 14 "CoresAreWillsModel" "kind" "[I" : Cond) ∈ UU := uu_t3 (List.mem_of_getElem? (i := 223) rfl) rfl
theorem uu1006 : (.fieldLink RX6 18 "CoresAreWillsModel" "figure" "[I" : Cond) ∈ UU := uu_t3 (List.mem_of_getElem? (i := 224) rfl) rfl
theorem uu1008 : (.fieldLink RX6 21 "CoresAreWillsModel" "imageKind" "[I" : Cond) ∈ UU := uu_t3 (List.mem_of_getElem? (i := 225) rfl) rfl
theorem uu1010 : (.fieldLink RX6 24 "CoresAreWillsModel" "imageFigure" "[I" : Cond) ∈ UU := uu_t3 (List.mem_of_getElem? (i := 226) rfl) rfl
theorem uu1012 : (.fieldLink RX6 27 "CoresAreWillsModel" "wasKind" "[I" : Cond) ∈ UU := uu_t3 (List.mem_of_getElem? (i := 227) rfl) rfl
theorem uu1014 : (.fieldLink RX6 30 "CoresAreWillsModel" "wasFigure" "[I" : Cond) ∈ UU := uu_t3 (List.mem_of_getElem? (i := 228) rfl) rfl
theorem uu1016 : (.fieldLink RX6 257 "CoresAreWillsModel" "hasImage" "Z" : Cond) ∈ UU := uu_t3 (List.mem_of_getElem? (i := 229) rfl) rfl
theorem uu1018 : (.fieldLink RX6 33 "CoresAreWillsModel" "letters" "[I" : Cond) ∈ UU := uu_t3 (List.mem_of_getElem? (i := 230) rfl) rfl
theorem uu1020 : (.fieldLink RX6 36 "CoresAreWillsModel" "row" "[I" : Cond) ∈ UU := uu_t3 (List.mem_of_getElem? (i := 231) rfl) rfl
theorem uu1022 : (.fieldLink RX6 39 "CoresAreWillsModel" "refused" "[I" : Cond) ∈ UU := uu_t3 (List.mem_of_getElem? (i := 232) rfl) rfl
theorem uu1024 : (.fieldLink RX6 104 "CoresAreWillsModel" "letterMany" "I" : Cond) ∈ UU := uu_t3 (List.mem_of_getElem? (i := 233) rfl) rfl
theorem uu1026 : (.fieldLink RX6 236 "CoresAreWillsModel" "rowMany" "I" : Cond) ∈ UU := uu_t3 (List.mem_of_getElem? (i := 234) rfl) rfl
theorem uu1028 : (.fieldLink RX6 107 "CoresAreWillsModel" "place" "I" : Cond) ∈ UU := uu_t3 (List.mem_of_getElem? (i := 235) rfl) rfl
theorem uu1030 : (.fieldLink RX6 42 "CoresAreWillsModel" "numbers" "[I" : Cond) ∈ UU := uu_t3 (List.mem_of_getElem? (i := 236) rfl) rfl
theorem uu1032 : (.fieldLink RX6 45 "CoresAreWillsModel" "counted" "[I" : Cond) ∈ UU := uu_t3 (List.mem_of_getElem? (i := 237) rfl) rfl
theorem uu1034 : (.fieldLink RX6 48 "CoresAreWillsModel" "few" "[I" : Cond) ∈ UU := uu_t3 (List.mem_of_getElem? (i := 238) rfl) rfl
theorem uu1036 : (.fieldLink RX6 239 "CoresAreWillsModel" "seed" "I" : Cond) ∈ UU := uu_t3 (List.mem_of_getElem? (i := 239) rfl) rfl
theorem uu1038 : (.lays "CoresAreWillsModel" "CoresAreWillsModel" "left" "I" : Cond) ∈ UU := uu_t4 (List.mem_of_getElem? (i := 0) rfl) rfl
theorem uu1039 : (.lays "CoresAreWillsModel" "CoresAreWillsModel" "bites" "I" : Cond) ∈ UU := uu_t4 (List.mem_of_getElem? (i := 2) rfl) rfl
theorem uu1040 : (.lays "CoresAreWillsModel" "CoresAreWillsModel" "many" "I" : Cond) ∈ UU := uu_t4 (List.mem_of_getElem? (i := 4) rfl) rfl
theorem uu1041 : (.lays "CoresAreWillsModel" "CoresAreWillsModel" "imageLeft" "I" : Cond) ∈ UU := uu_t4 (List.mem_of_getElem? (i := 6) rfl) rfl
theorem uu1042 : (.lays "CoresAreWillsModel" "CoresAreWillsModel" "imageBites" "I" : Cond) ∈ UU := uu_t4 (List.mem_of_getElem? (i := 8) rfl) rfl
theorem uu1043 : (.lays "CoresAreWillsModel" "CoresAreWillsModel" "imageMany" "I" : Cond) ∈ UU := uu_t4 (List.mem_of_getElem? (i := 10) rfl) rfl
theorem uu1044 : (.lays "CoresAreWillsModel" "CoresAreWillsModel" "wasLeft" "I" : Cond) ∈ UU := uu_t4 (List.mem_of_getElem? (i := 12) rfl) rfl
theorem uu1045 : (.lays "CoresAreWillsModel" "CoresAreWillsModel" "wasBites" "I" : Cond) ∈ UU := uu_t4 (List.mem_of_getElem? (i := 14) rfl) rfl
theorem uu1046 : (.lays "CoresAreWillsModel" "CoresAreWillsModel" "wasMany" "I" : Cond) ∈ UU := uu_t4 (List.mem_of_getElem? (i := 16) rfl) rfl
theorem uu1047 : (.laysFinal "CoresAreWillsModel" "CoresAreWillsModel" "kind" "[I" : Cond) ∈ UU := uu_t4 (List.mem_of_getElem? (i := 18) rfl) rfl
theorem uu1048 : (.laysFinal "CoresAreWillsModel" "CoresAreWillsModel" "figure" "[I" : Cond) ∈ UU := uu_t4 (List.mem_of_getElem? (i := 20) rfl) rfl
theorem uu1049 : (.laysFinal "CoresAreWillsModel" "CoresAreWillsModel" "imageKind" "[I" : Cond) ∈ UU := uu_t4 (List.mem_of_getElem? (i := 22) rfl) rfl
theorem uu1050 : (.laysFinal "CoresAreWillsModel" "CoresAreWillsModel" "imageFigure" "[I" : Cond) ∈ UU := uu_t4 (List.mem_of_getElem? (i := 24) rfl) rfl
theorem uu1051 : (.laysFinal "CoresAreWillsModel" "CoresAreWillsModel" "wasKind" "[I" : Cond) ∈ UU := uu_t4 (List.mem_of_getElem? (i := 26) rfl) rfl
theorem uu1052 : (.laysFinal "CoresAreWillsModel" "CoresAreWillsModel" "wasFigure" "[I" : Cond) ∈ UU := uu_t4 (List.mem_of_getElem? (i := 28) rfl) rfl
theorem uu1053 : (.lays "CoresAreWillsModel" "CoresAreWillsModel" "hasImage" "Z" : Cond) ∈ UU := uu_t4 (List.mem_of_getElem? (i := 30) rfl) rfl
theorem uu1054 : (.laysFinal "CoresAreWillsModel" "CoresAreWillsModel" "letters" "[I" : Cond) ∈ UU := uu_t4 (List.mem_of_getElem? (i := 32) rfl) rfl
theorem uu1055 : (.laysFinal "CoresAreWillsModel" "CoresAreWillsModel" "row" "[I" : Cond) ∈ UU := uu_t4 (List.mem_of_getElem? (i := 34) rfl) rfl
theorem uu1056 : (.laysFinal "CoresAreWillsModel" "CoresAreWillsModel" "refused" "[I" : Cond) ∈ UU := uu_t4 (List.mem_of_getElem? (i := 36) rfl) rfl
theorem uu1057 : (.lays "CoresAreWillsModel" "CoresAreWillsModel" "letterMany" "I" : Cond) ∈ UU := uu_t4 (List.mem_of_getElem? (i := 38) rfl) rfl
theorem uu1058 : (.lays "CoresAreWillsModel" "CoresAreWillsModel" "rowMany" "I" : Cond) ∈ UU := uu_t4 (List.mem_of_getElem? (i := 40) rfl) rfl
theorem uu1059 : (.lays "CoresAreWillsModel" "CoresAreWillsModel" "place" "I" : Cond) ∈ UU := uu_t4 (List.mem_of_getElem? (i := 42) rfl) rfl
theorem uu1060 : (.laysFinal "CoresAreWillsModel" "CoresAreWillsModel" "numbers" "[I" : Cond) ∈ UU := uu_t4 (List.mem_of_getElem? (i := 44) rfl) rfl
theorem uu1061 : (.laysFinal "CoresAreWillsModel" "CoresAreWillsModel" "counted" "[I" : Cond) ∈ UU := uu_t4 (List.mem_of_getElem? (i := 46) rfl) rfl
theorem uu1062 : (.laysFinal "CoresAreWillsModel" "CoresAreWillsModel" "few" "[I" : Cond) ∈ UU := uu_t4 (List.mem_of_getElem? (i := 48) rfl) rfl
theorem uu1063 : (.lays "CoresAreWillsModel" "CoresAreWillsModel" "seed" "I" : Cond) ∈ UU := uu_t4 (List.mem_of_getElem? (i := 50) rfl) rfl
theorem uu1064 : (.methodLink RL 17 yX6_letter : Cond) ∈ UU := uu_t4 (List.mem_of_getElem? (i := 53) rfl) rfl
theorem uu1066 : (.instanceMethod yX6_letter : Cond) ∈ UU := uu_t4 (List.mem_of_getElem? (i := 54) rfl) rfl
theorem uu1067 : (.selects RX6 yX6_letter yX6_letter : Cond) ∈ UU := uu_t4 (List.mem_of_getElem? (i := 55) rfl) rfl
theorem uu1068 : (.code yX6_letter cX6_letter 2 (some .int) : Cond) ∈ UU := uu_t4 (List.mem_of_getElem? (i := 56) rfl) rfl
theorem uu1070 : (.methodLink RX6 52 yX6_no : Cond) ∈ UU := uu_t4 (List.mem_of_getElem? (i := 57) rfl) rfl
theorem uu1072 : (.instanceMethod yX6_no : Cond) ∈ UU := uu_t4 (List.mem_of_getElem? (i := 59) rfl) rfl
theorem uu1073 : (.code yX6_no cX6_no 2 (some .int) : Cond) ∈ UU := uu_t4 (List.mem_of_getElem? (i := 60) rfl) rfl
theorem uu1075 : (.methodLink RL 22 yX6_core : Cond) ∈ UU := uu_t4 (List.mem_of_getElem? (i := 61) rfl) rfl
theorem uu1077 : (.instanceMethod yX6_core : Cond) ∈ UU := uu_t4 (List.mem_of_getElem? (i := 62) rfl) rfl
theorem uu1078 : (.selects RX6 yX6_core yX6_core : Cond) ∈ UU := uu_t4 (List.mem_of_getElem? (i := 63) rfl) rfl
theorem uu1079 : (.code yX6_core cX6_core 6 (some .int) : Cond) ∈ UU := uu_t4 (List.mem_of_getElem? (i := 64) rfl) rfl
theorem uu1081 : (.methodLink RX6 156 yX6_readsStatement : Cond) ∈ UU := uu_t4 (List.mem_of_getElem? (i := 65) rfl) rfl
theorem uu1083 : (.instanceMethod yX6_readsStatement : Cond) ∈ UU := uu_t4 (List.mem_of_getElem? (i := 67) rfl) rfl
theorem uu1084 : (.code yX6_readsStatement cX6_readsStatement 3 (some .boolean) : Cond) ∈ UU := uu_t4 (List.mem_of_getElem? (i := 68) rfl) rfl
theorem uu1086 : (.methodLink RX6 110 yX6_here : Cond) ∈ UU := uu_t4 (List.mem_of_getElem? (i := 69) rfl) rfl
theorem uu1088 : (.instanceMethod yX6_here : Cond) ∈ UU := uu_t4 (List.mem_of_getElem? (i := 71) rfl) rfl
theorem uu1089 : (.code yX6_here cX6_here 1 (some .int) : Cond) ∈ UU := uu_t4 (List.mem_of_getElem? (i := 72) rfl) rfl
theorem uu1091 : (.methodLink RX6 117 yX6_readsKind : Cond) ∈ UU := uu_t4 (List.mem_of_getElem? (i := 73) rfl) rfl
theorem uu1093 : (.instanceMethod yX6_readsKind : Cond) ∈ UU := uu_t4 (List.mem_of_getElem? (i := 75) rfl) rfl
theorem uu1094 : (.code yX6_readsKind cX6_readsKind 1 (some .boolean) : Cond) ∈ UU := uu_t4 (List.mem_of_getElem? (i := 76) rfl) rfl
theorem uu1096 : (.methodLink RX6 114 yX6_kindBy : Cond) ∈ UU := uu_t4 (List.mem_of_getElem? (i := 77) rfl) rfl
theorem uu1098 : (.static yX6_kindBy : Cond) ∈ UU := uu_t4 (List.mem_of_getElem? (i := 78) rfl) rfl
theorem uu1099 : (.code yX6_kindBy cX6_kindBy 1 (some .int) : Cond) ∈ UU := uu_t4 (List.mem_of_getElem? (i := 79) rfl) rfl
theorem uu1101 : (.methodLink RX6 121 yX6_readsNumber : Cond) ∈ UU := uu_t4 (List.mem_of_getElem? (i := 80) rfl) rfl
theorem uu1103 : (.instanceMethod yX6_readsNumber : Cond) ∈ UU := uu_t4 (List.mem_of_getElem? (i := 82) rfl) rfl
theorem uu1104 : (.code yX6_readsNumber cX6_readsNumber 4 (some .boolean) : Cond) ∈ UU := uu_t4 (List.mem_of_getElem? (i := 83) rfl) rfl
theorem uu1106 : (.methodLink RX6 58 yX6_isIn : Cond) ∈ UU := uu_t4 (List.mem_of_getElem? (i := 84) rfl) rfl
theorem uu1108 : (.static yX6_isIn : Cond) ∈ UU := uu_t4 (List.mem_of_getElem? (i := 85) rfl) rfl
theorem uu1109 : (.code yX6_isIn cX6_isIn 3 (some .boolean) : Cond) ∈ UU := uu_t4 (List.mem_of_getElem? (i := 86) rfl) rfl
theorem uu1111 : (.methodLink RX6 159 yX6_lays : Cond) ∈ UU := uu_t4 (List.mem_of_getElem? (i := 87) rfl) rfl
theorem uu1113 : (.instanceMethod yX6_lays : Cond) ∈ UU := uu_t4 (List.mem_of_getElem? (i := 89) rfl) rfl
theorem uu1114 : (.code yX6_lays cX6_lays 2 none : Cond) ∈ UU := uu_t4 (List.mem_of_getElem? (i := 90) rfl) rfl
theorem uu1116 : (.methodLink RX6 162 yX6_isDone : Cond) ∈ UU := uu_t4 (List.mem_of_getElem? (i := 91) rfl) rfl
theorem uu1118 : (.instanceMethod yX6_isDone : Cond) ∈ UU := uu_t4 (List.mem_of_getElem? (i := 93) rfl) rfl
theorem uu1119 : (.code yX6_isDone cX6_isDone 4 (some .boolean) : Cond) ∈ UU := uu_t4 (List.mem_of_getElem? (i := 94) rfl) rfl
theorem uu1121 : (.methodLink RX6 130 yX6_isCell : Cond) ∈ UU := uu_t4 (List.mem_of_getElem? (i := 95) rfl) rfl
theorem uu1123 : (.static yX6_isCell : Cond) ∈ UU := uu_t4 (List.mem_of_getElem? (i := 96) rfl) rfl
theorem uu1124 : (.code yX6_isCell cX6_isCell 1 (some .boolean) : Cond) ∈ UU := uu_t4 (List.mem_of_getElem? (i := 97) rfl) rfl
theorem uu1126 : (.methodLink RX6 134 yX6_canBite : Cond) ∈ UU := uu_t4 (List.mem_of_getElem? (i := 98) rfl) rfl
theorem uu1128 : (.static yX6_canBite : Cond) ∈ UU := uu_t4 (List.mem_of_getElem? (i := 99) rfl) rfl
theorem uu1129 : (.code yX6_canBite cX6_canBite 3 (some .boolean) : Cond) ∈ UU := uu_t4 (List.mem_of_getElem? (i := 100) rfl) rfl
theorem uu1131 : (.methodLink RX6 65 yX6_bite : Cond) ∈ UU := uu_t4 (List.mem_of_getElem? (i := 101) rfl) rfl
theorem uu1133 : (.static yX6_bite : Cond) ∈ UU := uu_t4 (List.mem_of_getElem? (i := 102) rfl) rfl
theorem uu1134 : (.code yX6_bite cX6_bite 5 (some .int) : Cond) ∈ UU := uu_t4 (List.mem_of_getElem? (i := 103) rfl) rfl
theorem uu1136 : (.methodLink RX6 137 yX6_bitesOff : Cond) ∈ UU := uu_t4 (List.mem_of_getElem? (i := 104) rfl) rfl
theorem uu1138 : (.instanceMethod yX6_bitesOff : Cond) ∈ UU := uu_t4 (List.mem_of_getElem? (i := 106) rfl) rfl
theorem uu1139 : (.code yX6_bitesOff cX6_bitesOff 2 none : Cond) ∈ UU := uu_t4 (List.mem_of_getElem? (i := 107) rfl) rfl
theorem uu1141 : (.methodLink RX6 127 yX6_least : Cond) ∈ UU := uu_t4 (List.mem_of_getElem? (i := 108) rfl) rfl
theorem uu1143 : (.static yX6_least : Cond) ∈ UU := uu_t4 (List.mem_of_getElem? (i := 109) rfl) rfl
theorem uu1144 : (.code yX6_least cX6_least 2 (some .int) : Cond) ∈ UU := uu_t4 (List.mem_of_getElem? (i := 110) rfl) rfl
theorem uu1146 : (.methodLink RX6 141 yX6_turnedBy : Cond) ∈ UU := uu_t4 (List.mem_of_getElem? (i := 111) rfl) rfl
theorem uu1148 : (.static yX6_turnedBy : Cond) ∈ UU := uu_t4 (List.mem_of_getElem? (i := 112) rfl) rfl
theorem uu1149 : (.code yX6_turnedBy cX6_turnedBy 4 (some .int) : Cond) ∈ UU := uu_t4 (List.mem_of_getElem? (i := 113) rfl) rfl
theorem uu1151 : (.methodLink RX6 101 yX6_turned : Cond) ∈ UU := uu_t4 (List.mem_of_getElem? (i := 114) rfl) rfl
theorem uu1153 : (.static yX6_turned : Cond) ∈ UU := uu_t4 (List.mem_of_getElem? (i := 115) rfl) rfl
theorem uu1154 : (.code yX6_turned cX6_turned 3 (some .int) : Cond) ∈ UU := uu_t4 (List.mem_of_getElem? (i := 116) rfl) rfl
theorem uu1156 : (.methodLink RX6 144 yX6_allAgain : Cond) ∈ UU := uu_t4 (List.mem_of_getElem? (i := 117) rfl) rfl
theorem uu1158 : (.instanceMethod yX6_allAgain : Cond) ∈ UU := uu_t4 (List.mem_of_getElem? (i := 119) rfl) rfl
theorem uu1159 : (.code yX6_allAgain cX6_allAgain 1 none : Cond) ∈ UU := uu_t4 (List.mem_of_getElem? (i := 120) rfl) rfl
theorem uu1161 : (.methodLink RX6 165 yX6_laysBack : Cond) ∈ UU := uu_t4 (List.mem_of_getElem? (i := 121) rfl) rfl
theorem uu1163 : (.instanceMethod yX6_laysBack : Cond) ∈ UU := uu_t4 (List.mem_of_getElem? (i := 123) rfl) rfl
theorem uu1164 : (.code yX6_laysBack cX6_laysBack 2 none : Cond) ∈ UU := uu_t4 (List.mem_of_getElem? (i := 124) rfl) rfl
theorem uu1166 : (.methodLink RL 27 yX6_cell : Cond) ∈ UU := uu_t4 (List.mem_of_getElem? (i := 125) rfl) rfl
theorem uu1168 : (.instanceMethod yX6_cell : Cond) ∈ UU := uu_t4 (List.mem_of_getElem? (i := 126) rfl) rfl
theorem uu1169 : (.selects RX6 yX6_cell yX6_cell : Cond) ∈ UU := uu_t4 (List.mem_of_getElem? (i := 127) rfl) rfl
theorem uu1170 : (.code yX6_cell cX6_cell 3 (some .int) : Cond) ∈ UU := uu_t4 (List.mem_of_getElem? (i := 128) rfl) rfl
theorem uu1172 : (.methodLink RX6 69 yX6_besideOf : Cond) ∈ UU := uu_t4 (List.mem_of_getElem? (i := 129) rfl) rfl
theorem uu1174 : (.static yX6_besideOf : Cond) ∈ UU := uu_t4 (List.mem_of_getElem? (i := 130) rfl) rfl
theorem uu1175 : (.code yX6_besideOf cX6_besideOf 3 (some .int) : Cond) ∈ UU := uu_t4 (List.mem_of_getElem? (i := 131) rfl) rfl
theorem uu1177 : (.methodLink RX6 82 yX6_bits : Cond) ∈ UU := uu_t4 (List.mem_of_getElem? (i := 132) rfl) rfl
theorem uu1179 : (.static yX6_bits : Cond) ∈ UU := uu_t4 (List.mem_of_getElem? (i := 133) rfl) rfl
theorem uu1180 : (.code yX6_bits cX6_bits 3 (some .int) : Cond) ∈ UU := uu_t4 (List.mem_of_getElem? (i := 134) rfl) rfl
theorem uu1182 : (.methodLink RX6 79 yX6_heapOf : Cond) ∈ UU := uu_t4 (List.mem_of_getElem? (i := 135) rfl) rfl
theorem uu1184 : (.static yX6_heapOf : Cond) ∈ UU := uu_t4 (List.mem_of_getElem? (i := 136) rfl) rfl
theorem uu1185 : (.code yX6_heapOf cX6_heapOf 4 (some .int) : Cond) ∈ UU := uu_t4 (List.mem_of_getElem? (i := 137) rfl) rfl
theorem uu1187 : (.methodLink RL 31 yX6_heir : Cond) ∈ UU := uu_t4 (List.mem_of_getElem? (i := 138) rfl) rfl
theorem uu1189 : (.instanceMethod yX6_heir : Cond) ∈ UU := uu_t4 (List.mem_of_getElem? (i := 139) rfl) rfl
theorem uu1190 : (.selects RX6 yX6_heir yX6_heir : Cond) ∈ UU := uu_t4 (List.mem_of_getElem? (i := 140) rfl) rfl
theorem uu1191 : (.code yX6_heir cX6_heir 3 (some .int) : Cond) ∈ UU := uu_t4 (List.mem_of_getElem? (i := 141) rfl) rfl
theorem uu1193 : (.methodLink RX6 168 yX6_isHeir : Cond) ∈ UU := uu_t4 (List.mem_of_getElem? (i := 142) rfl) rfl
theorem uu1195 : (.instanceMethod yX6_isHeir : Cond) ∈ UU := uu_t4 (List.mem_of_getElem? (i := 144) rfl) rfl
theorem uu1196 : (.code yX6_isHeir cX6_isHeir 2 (some .boolean) : Cond) ∈ UU := uu_t4 (List.mem_of_getElem? (i := 145) rfl) rfl
theorem uu1198 : (.methodLink RX6 98 yX6_shareOf : Cond) ∈ UU := uu_t4 (List.mem_of_getElem? (i := 146) rfl) rfl
theorem uu1200 : (.instanceMethod yX6_shareOf : Cond) ∈ UU := uu_t4 (List.mem_of_getElem? (i := 148) rfl) rfl
theorem uu1201 : (.code yX6_shareOf cX6_shareOf 3 (some .int) : Cond) ∈ UU := uu_t4 (List.mem_of_getElem? (i := 149) rfl) rfl
theorem uu1203 : (.methodLink RX6 94 yX6_shareBy : Cond) ∈ UU := uu_t4 (List.mem_of_getElem? (i := 150) rfl) rfl
theorem uu1205 : (.static yX6_shareBy : Cond) ∈ UU := uu_t4 (List.mem_of_getElem? (i := 151) rfl) rfl
theorem uu1206 : (.code yX6_shareBy cX6_shareBy 7 (some .int) : Cond) ∈ UU := uu_t4 (List.mem_of_getElem? (i := 152) rfl) rfl
theorem uu1208 : (.methodLink RX6 85 yX6_deed : Cond) ∈ UU := uu_t4 (List.mem_of_getElem? (i := 153) rfl) rfl
theorem uu1210 : (.static yX6_deed : Cond) ∈ UU := uu_t4 (List.mem_of_getElem? (i := 154) rfl) rfl
theorem uu1211 : (.code yX6_deed cX6_deed 5 (some .int) : Cond) ∈ UU := uu_t4 (List.mem_of_getElem? (i := 155) rfl) rfl
theorem uu1213 : (.methodLink RX6 76 yX6_leastOf : Cond) ∈ UU := uu_t4 (List.mem_of_getElem? (i := 156) rfl) rfl
theorem uu1215 : (.static yX6_leastOf : Cond) ∈ UU := uu_t4 (List.mem_of_getElem? (i := 157) rfl) rfl
theorem uu1216 : (.code yX6_leastOf cX6_leastOf 2 (some .int) : Cond) ∈ UU := uu_t4 (List.mem_of_getElem? (i := 158) rfl) rfl
theorem uu1218 : (.methodLink RX6 72 yX6_has : Cond) ∈ UU := uu_t4 (List.mem_of_getElem? (i := 159) rfl) rfl
theorem uu1220 : (.static yX6_has : Cond) ∈ UU := uu_t4 (List.mem_of_getElem? (i := 160) rfl) rfl
theorem uu1221 : (.code yX6_has cX6_has 2 (some .boolean) : Cond) ∈ UU := uu_t4 (List.mem_of_getElem? (i := 161) rfl) rfl
theorem uu1223 : (.methodLink RX6 88 yX6_most : Cond) ∈ UU := uu_t4 (List.mem_of_getElem? (i := 162) rfl) rfl
theorem uu1225 : (.static yX6_most : Cond) ∈ UU := uu_t4 (List.mem_of_getElem? (i := 163) rfl) rfl
theorem uu1226 : (.code yX6_most cX6_most 2 (some .int) : Cond) ∈ UU := uu_t4 (List.mem_of_getElem? (i := 164) rfl) rfl
theorem uu1228 : (.methodLink RX6 91 yX6_heaps : Cond) ∈ UU := uu_t4 (List.mem_of_getElem? (i := 165) rfl) rfl
theorem uu1230 : (.static yX6_heaps : Cond) ∈ UU := uu_t4 (List.mem_of_getElem? (i := 166) rfl) rfl
theorem uu1231 : (.code yX6_heaps cX6_heaps 3 (some .int) : Cond) ∈ UU := uu_t4 (List.mem_of_getElem? (i := 167) rfl) rfl
theorem uu1233 : (.methodLink RL 35 yX6_bites : Cond) ∈ UU := uu_t4 (List.mem_of_getElem? (i := 168) rfl) rfl
theorem uu1235 : (.instanceMethod yX6_bites : Cond) ∈ UU := uu_t4 (List.mem_of_getElem? (i := 169) rfl) rfl
theorem uu1236 : (.selects RX6 yX6_bites yX6_bites : Cond) ∈ UU := uu_t4 (List.mem_of_getElem? (i := 170) rfl) rfl
theorem uu1237 : (.code yX6_bites cX6_bites 3 (some .int) : Cond) ∈ UU := uu_t4 (List.mem_of_getElem? (i := 171) rfl) rfl
theorem uu1239 : (.methodLink RL 39 yX6_heals : Cond) ∈ UU := uu_t4 (List.mem_of_getElem? (i := 172) rfl) rfl
theorem uu1241 : (.instanceMethod yX6_heals : Cond) ∈ UU := uu_t4 (List.mem_of_getElem? (i := 173) rfl) rfl
theorem uu1242 : (.selects RX6 yX6_heals yX6_heals : Cond) ∈ UU := uu_t4 (List.mem_of_getElem? (i := 174) rfl) rfl
theorem uu1243 : (.code yX6_heals cX6_heals 2 (some .int) : Cond) ∈ UU := uu_t4 (List.mem_of_getElem? (i := 175) rfl) rfl
theorem uu1245 : (.methodLink RL 43 yX6_rolls : Cond) ∈ UU := uu_t4 (List.mem_of_getElem? (i := 176) rfl) rfl
theorem uu1247 : (.instanceMethod yX6_rolls : Cond) ∈ UU := uu_t4 (List.mem_of_getElem? (i := 177) rfl) rfl
theorem uu1248 : (.selects RX6 yX6_rolls yX6_rolls : Cond) ∈ UU := uu_t4 (List.mem_of_getElem? (i := 178) rfl) rfl
theorem uu1249 : (.code yX6_rolls cX6_rolls 2 (some .int) : Cond) ∈ UU := uu_t4 (List.mem_of_getElem? (i := 179) rfl) rfl
theorem uu1251 : (.methodLink RL 48 yX6_turn : Cond) ∈ UU := uu_t4 (List.mem_of_getElem? (i := 180) rfl) rfl
theorem uu1253 : (.instanceMethod yX6_turn : Cond) ∈ UU := uu_t4 (List.mem_of_getElem? (i := 181) rfl) rfl
theorem uu1254 : (.selects RX6 yX6_turn yX6_turn : Cond) ∈ UU := uu_t4 (List.mem_of_getElem? (i := 182) rfl) rfl
theorem uu1255 : (.code yX6_turn cX6_turn 6 (some .int) : Cond) ∈ UU := uu_t4 (List.mem_of_getElem? (i := 183) rfl) rfl
theorem uu1257 : (.methodLink RX6 171 yX6_wrongBy : Cond) ∈ UU := uu_t4 (List.mem_of_getElem? (i := 184) rfl) rfl
theorem uu1259 : (.static yX6_wrongBy : Cond) ∈ UU := uu_t4 (List.mem_of_getElem? (i := 185) rfl) rfl
theorem uu1260 : (.code yX6_wrongBy cX6_wrongBy 2 (some .int) : Cond) ∈ UU := uu_t4 (List.mem_of_getElem? (i := 186) rfl) rfl
theorem uu1262 : (.methodLink RL 52 yX6_anew : Cond) ∈ UU := uu_t4 (List.mem_of_getElem? (i := 187) rfl) rfl
theorem uu1264 : (.instanceMethod yX6_anew : Cond) ∈ UU := uu_t4 (List.mem_of_getElem? (i := 188) rfl) rfl
theorem uu1265 : (.selects RX6 yX6_anew yX6_anew : Cond) ∈ UU := uu_t4 (List.mem_of_getElem? (i := 189) rfl) rfl
theorem uu1266 : (.code yX6_anew cX6_anew 2 (some .int) : Cond) ∈ UU := uu_t4 (List.mem_of_getElem? (i := 190) rfl) rfl
theorem uu1268 : (.methodLink RL 56 yX6_shares : Cond) ∈ UU := uu_t4 (List.mem_of_getElem? (i := 191) rfl) rfl
theorem uu1270 : (.instanceMethod yX6_shares : Cond) ∈ UU := uu_t4 (List.mem_of_getElem? (i := 192) rfl) rfl
theorem uu1271 : (.selects RX6 yX6_shares yX6_shares : Cond) ∈ UU := uu_t4 (List.mem_of_getElem? (i := 193) rfl) rfl
theorem uu1272 : (.code yX6_shares cX6_shares 4 (some .int) : Cond) ∈ UU := uu_t4 (List.mem_of_getElem? (i := 194) rfl) rfl
theorem uu1274 : (.methodLink RX6 174 yX6_sharesOf : Cond) ∈ UU := uu_t4 (List.mem_of_getElem? (i := 195) rfl) rfl
theorem uu1276 : (.instanceMethod yX6_sharesOf : Cond) ∈ UU := uu_t4 (List.mem_of_getElem? (i := 197) rfl) rfl
theorem uu1277 : (.code yX6_sharesOf cX6_sharesOf 4 (some .int) : Cond) ∈ UU := uu_t4 (List.mem_of_getElem? (i := 198) rfl) rfl
theorem uu1279 : (.methodLink RL 60 yX6_pieces : Cond) ∈ UU := uu_t4 (List.mem_of_getElem? (i := 199) rfl) rfl
theorem uu1281 : (.instanceMethod yX6_pieces : Cond) ∈ UU := uu_t4 (List.mem_of_getElem? (i := 200) rfl) rfl
theorem uu1282 : (.selects RX6 yX6_pieces yX6_pieces : Cond) ∈ UU := uu_t4 (List.mem_of_getElem? (i := 201) rfl) rfl
theorem uu1283 : (.code yX6_pieces cX6_pieces 3 (some .int) : Cond) ∈ UU := uu_t4 (List.mem_of_getElem? (i := 202) rfl) rfl
theorem uu1285 : (.methodLink RX6 177 yX6_leastHeap : Cond) ∈ UU := uu_t4 (List.mem_of_getElem? (i := 203) rfl) rfl
theorem uu1287 : (.static yX6_leastHeap : Cond) ∈ UU := uu_t4 (List.mem_of_getElem? (i := 204) rfl) rfl
theorem uu1288 : (.code yX6_leastHeap cX6_leastHeap 4 (some .int) : Cond) ∈ UU := uu_t4 (List.mem_of_getElem? (i := 205) rfl) rfl
theorem uu1290 : (.methodLink RL 64 yX6_edge : Cond) ∈ UU := uu_t4 (List.mem_of_getElem? (i := 206) rfl) rfl
theorem uu1292 : (.instanceMethod yX6_edge : Cond) ∈ UU := uu_t4 (List.mem_of_getElem? (i := 207) rfl) rfl
theorem uu1293 : (.selects RX6 yX6_edge yX6_edge : Cond) ∈ UU := uu_t4 (List.mem_of_getElem? (i := 208) rfl) rfl
theorem uu1294 : (.code yX6_edge cX6_edge 5 (some .int) : Cond) ∈ UU := uu_t4 (List.mem_of_getElem? (i := 209) rfl) rfl
theorem uu1296 : (.methodLink RX6 180 yX6_border : Cond) ∈ UU := uu_t4 (List.mem_of_getElem? (i := 210) rfl) rfl
theorem uu1298 : (.static yX6_border : Cond) ∈ UU := uu_t4 (List.mem_of_getElem? (i := 211) rfl) rfl
theorem uu1299 : (.code yX6_border cX6_border 2 (some .int) : Cond) ∈ UU := uu_t4 (List.mem_of_getElem? (i := 212) rfl) rfl
theorem uu1301 : (.methodLink RL 68 yX6_best : Cond) ∈ UU := uu_t4 (List.mem_of_getElem? (i := 213) rfl) rfl
theorem uu1303 : (.instanceMethod yX6_best : Cond) ∈ UU := uu_t4 (List.mem_of_getElem? (i := 214) rfl) rfl
theorem uu1304 : (.selects RX6 yX6_best yX6_best : Cond) ∈ UU := uu_t4 (List.mem_of_getElem? (i := 215) rfl) rfl
theorem uu1305 : (.code yX6_best cX6_best 3 (some .int) : Cond) ∈ UU := uu_t4 (List.mem_of_getElem? (i := 216) rfl) rfl
theorem uu1307 : (.methodLink RX6 189 yX6_biteTold : Cond) ∈ UU := uu_t4 (List.mem_of_getElem? (i := 217) rfl) rfl
theorem uu1309 : (.instanceMethod yX6_biteTold : Cond) ∈ UU := uu_t4 (List.mem_of_getElem? (i := 219) rfl) rfl
theorem uu1310 : (.code yX6_biteTold cX6_biteTold 5 (some .int) : Cond) ∈ UU := uu_t4 (List.mem_of_getElem? (i := 220) rfl) rfl
theorem uu1312 : (.methodLink RX6 183 yX6_biteFor : Cond) ∈ UU := uu_t4 (List.mem_of_getElem? (i := 221) rfl) rfl
theorem uu1314 : (.instanceMethod yX6_biteFor : Cond) ∈ UU := uu_t4 (List.mem_of_getElem? (i := 223) rfl) rfl
theorem uu1315 : (.code yX6_biteFor cX6_biteFor 9 (some .int) : Cond) ∈ UU := uu_t4 (List.mem_of_getElem? (i := 224) rfl) rfl
theorem uu1317 : (.methodLink RX6 186 yX6_after : Cond) ∈ UU := uu_t4 (List.mem_of_getElem? (i := 225) rfl) rfl
theorem uu1319 : (.static yX6_after : Cond) ∈ UU := uu_t4 (List.mem_of_getElem? (i := 226) rfl) rfl
theorem uu1320 : (.code yX6_after cX6_after 2 (some .int) : Cond) ∈ UU := uu_t4 (List.mem_of_getElem? (i := 227) rfl) rfl
theorem uu1322 : (.methodLink RL 72 yX6_worst : Cond) ∈ UU := uu_t4 (List.mem_of_getElem? (i := 228) rfl) rfl
theorem uu1324 : (.instanceMethod yX6_worst : Cond) ∈ UU := uu_t4 (List.mem_of_getElem? (i := 229) rfl) rfl
theorem uu1325 : (.selects RX6 yX6_worst yX6_worst : Cond) ∈ UU := uu_t4 (List.mem_of_getElem? (i := 230) rfl) rfl
theorem uu1326 : (.code yX6_worst cX6_worst 3 (some .int) : Cond) ∈ UU := uu_t4 (List.mem_of_getElem? (i := 231) rfl) rfl
theorem uu1328 : (.methodLink RL 76 yX6_fewest : Cond) ∈ UU := uu_t4 (List.mem_of_getElem? (i := 232) rfl) rfl
theorem uu1330 : (.instanceMethod yX6_fewest : Cond) ∈ UU := uu_t4 (List.mem_of_getElem? (i := 233) rfl) rfl
theorem uu1331 : (.selects RX6 yX6_fewest yX6_fewest : Cond) ∈ UU := uu_t4 (List.mem_of_getElem? (i := 234) rfl) rfl
theorem uu1332 : (.code yX6_fewest cX6_fewest 6 (some .int) : Cond) ∈ UU := uu_t4 (List.mem_of_getElem? (i := 235) rfl) rfl
theorem uu1334 : (.methodLink RX6 192 yX6_isSoBy : Cond) ∈ UU := uu_t4 (List.mem_of_getElem? (i := 236) rfl) rfl
theorem uu1336 : (.instanceMethod yX6_isSoBy : Cond) ∈ UU := uu_t4 (List.mem_of_getElem? (i := 238) rfl) rfl
theorem uu1337 : (.code yX6_isSoBy cX6_isSoBy 7 (some .boolean) : Cond) ∈ UU := uu_t4 (List.mem_of_getElem? (i := 239) rfl) rfl
theorem uu1339 : (.methodLink RX6 196 yX6_firstSo : Cond) ∈ UU := uu_t5 (List.mem_of_getElem? (i := 0) rfl) rfl
theorem uu1341 : (.instanceMethod yX6_firstSo : Cond) ∈ UU := uu_t5 (List.mem_of_getElem? (i := 2) rfl) rfl
theorem uu1342 : (.code yX6_firstSo cX6_firstSo 6 (some .int) : Cond) ∈ UU := uu_t5 (List.mem_of_getElem? (i := 3) rfl) rfl
theorem uu1344 : (.methodLink RL 80 yX6_safe : Cond) ∈ UU := uu_t5 (List.mem_of_getElem? (i := 4) rfl) rfl
theorem uu1346 : (.instanceMethod yX6_safe : Cond) ∈ UU := uu_t5 (List.mem_of_getElem? (i := 5) rfl) rfl
theorem uu1347 : (.selects RX6 yX6_safe yX6_safe : Cond) ∈ UU := uu_t5 (List.mem_of_getElem? (i := 6) rfl) rfl
theorem uu1348 : (.code yX6_safe cX6_safe 6 (some .int) : Cond) ∈ UU := uu_t5 (List.mem_of_getElem? (i := 7) rfl) rfl
theorem uu1350 : (.methodLink RL 84 yX6_can : Cond) ∈ UU := uu_t5 (List.mem_of_getElem? (i := 8) rfl) rfl
theorem uu1352 : (.instanceMethod yX6_can : Cond) ∈ UU := uu_t5 (List.mem_of_getElem? (i := 9) rfl) rfl
theorem uu1353 : (.selects RX6 yX6_can yX6_can : Cond) ∈ UU := uu_t5 (List.mem_of_getElem? (i := 10) rfl) rfl
theorem uu1354 : (.code yX6_can cX6_can 5 (some .int) : Cond) ∈ UU := uu_t5 (List.mem_of_getElem? (i := 11) rfl) rfl
theorem uu1356 : (.methodLink RL 88 yX6_ways : Cond) ∈ UU := uu_t5 (List.mem_of_getElem? (i := 12) rfl) rfl
theorem uu1358 : (.instanceMethod yX6_ways : Cond) ∈ UU := uu_t5 (List.mem_of_getElem? (i := 13) rfl) rfl
theorem uu1359 : (.selects RX6 yX6_ways yX6_ways : Cond) ∈ UU := uu_t5 (List.mem_of_getElem? (i := 14) rfl) rfl
theorem uu1360 : (.code yX6_ways cX6_ways 8 (some .int) : Cond) ∈ UU := uu_t5 (List.mem_of_getElem? (i := 15) rfl) rfl
theorem uu1362 : (.constant RX6 51 (1000000000) : Cond) ∈ UU := uu_t5 (List.mem_of_getElem? (i := 16) rfl) rfl
theorem uu1364 : (.methodLink RX6 200 yX6_comesTo : Cond) ∈ UU := uu_t5 (List.mem_of_getElem? (i := 17) rfl) rfl
theorem uu1366 : (.instanceMethod yX6_comesTo : Cond) ∈ UU := uu_t5 (List.mem_of_getElem? (i := 19) rfl) rfl
theorem uu1367 : (.code yX6_comesTo cX6_comesTo 6 none : Cond) ∈ UU := uu_t5 (List.mem_of_getElem? (i := 20) rfl) rfl
theorem uu1369 : (.constant RX6 199 (1000003) : Cond) ∈ UU := uu_t5 (List.mem_of_getElem? (i := 21) rfl) rfl
theorem uu1371 : (.methodLink RL 92 yX6_alike : Cond) ∈ UU := uu_t5 (List.mem_of_getElem? (i := 22) rfl) rfl
theorem uu1373 : (.instanceMethod yX6_alike : Cond) ∈ UU := uu_t5 (List.mem_of_getElem? (i := 23) rfl) rfl
theorem uu1374 : (.selects RX6 yX6_alike yX6_alike : Cond) ∈ UU := uu_t5 (List.mem_of_getElem? (i := 24) rfl) rfl
theorem uu1375 : (.code yX6_alike cX6_alike 4 (some .int) : Cond) ∈ UU := uu_t5 (List.mem_of_getElem? (i := 25) rfl) rfl
theorem uu1377 : (.methodLink RL 96 yX6_settles : Cond) ∈ UU := uu_t5 (List.mem_of_getElem? (i := 26) rfl) rfl
theorem uu1379 : (.instanceMethod yX6_settles : Cond) ∈ UU := uu_t5 (List.mem_of_getElem? (i := 27) rfl) rfl
theorem uu1380 : (.selects RX6 yX6_settles yX6_settles : Cond) ∈ UU := uu_t5 (List.mem_of_getElem? (i := 28) rfl) rfl
theorem uu1381 : (.code yX6_settles cX6_settles 4 (some .int) : Cond) ∈ UU := uu_t5 (List.mem_of_getElem? (i := 29) rfl) rfl
theorem uu1383 : (.methodLink RL 100 yX6_pips : Cond) ∈ UU := uu_t5 (List.mem_of_getElem? (i := 30) rfl) rfl
theorem uu1385 : (.instanceMethod yX6_pips : Cond) ∈ UU := uu_t5 (List.mem_of_getElem? (i := 31) rfl) rfl
theorem uu1386 : (.selects RX6 yX6_pips yX6_pips : Cond) ∈ UU := uu_t5 (List.mem_of_getElem? (i := 32) rfl) rfl
theorem uu1387 : (.code yX6_pips cX6_pips 2 (some .int) : Cond) ∈ UU := uu_t5 (List.mem_of_getElem? (i := 33) rfl) rfl
theorem uu1389 : (.methodLink RL 104 yX6_grudge : Cond) ∈ UU := uu_t5 (List.mem_of_getElem? (i := 34) rfl) rfl
theorem uu1391 : (.instanceMethod yX6_grudge : Cond) ∈ UU := uu_t5 (List.mem_of_getElem? (i := 35) rfl) rfl
theorem uu1392 : (.selects RX6 yX6_grudge yX6_grudge : Cond) ∈ UU := uu_t5 (List.mem_of_getElem? (i := 36) rfl) rfl
theorem uu1393 : (.code yX6_grudge cX6_grudge 6 (some .int) : Cond) ∈ UU := uu_t5 (List.mem_of_getElem? (i := 37) rfl) rfl
theorem uu1395 : (.methodLink RL 108 yX6_gain : Cond) ∈ UU := uu_t5 (List.mem_of_getElem? (i := 38) rfl) rfl
theorem uu1397 : (.instanceMethod yX6_gain : Cond) ∈ UU := uu_t5 (List.mem_of_getElem? (i := 39) rfl) rfl
theorem uu1398 : (.selects RX6 yX6_gain yX6_gain : Cond) ∈ UU := uu_t5 (List.mem_of_getElem? (i := 40) rfl) rfl
theorem uu1399 : (.code yX6_gain cX6_gain 3 (some .int) : Cond) ∈ UU := uu_t5 (List.mem_of_getElem? (i := 41) rfl) rfl
theorem uu1401 : (.methodLink RX6 204 yX6_areTwo : Cond) ∈ UU := uu_t5 (List.mem_of_getElem? (i := 42) rfl) rfl
theorem uu1403 : (.instanceMethod yX6_areTwo : Cond) ∈ UU := uu_t5 (List.mem_of_getElem? (i := 44) rfl) rfl
theorem uu1404 : (.code yX6_areTwo cX6_areTwo 3 (some .boolean) : Cond) ∈ UU := uu_t5 (List.mem_of_getElem? (i := 45) rfl) rfl
theorem uu1406 : (.methodLink RX6 207 yX6_noFar : Cond) ∈ UU := uu_t5 (List.mem_of_getElem? (i := 46) rfl) rfl
theorem uu1408 : (.instanceMethod yX6_noFar : Cond) ∈ UU := uu_t5 (List.mem_of_getElem? (i := 48) rfl) rfl
theorem uu1409 : (.code yX6_noFar cX6_noFar 2 (some .int) : Cond) ∈ UU := uu_t5 (List.mem_of_getElem? (i := 49) rfl) rfl
theorem uu1411 : (.methodLink RL 112 yX6_join : Cond) ∈ UU := uu_t5 (List.mem_of_getElem? (i := 50) rfl) rfl
theorem uu1413 : (.instanceMethod yX6_join : Cond) ∈ UU := uu_t5 (List.mem_of_getElem? (i := 51) rfl) rfl
theorem uu1414 : (.selects RX6 yX6_join yX6_join : Cond) ∈ UU := uu_t5 (List.mem_of_getElem? (i := 52) rfl) rfl
theorem uu1415 : (.code yX6_join cX6_join 2 (some .int) : Cond) ∈ UU := uu_t5 (List.mem_of_getElem? (i := 53) rfl) rfl
theorem uu1417 : (.methodLink RL 116 yX6_bridge : Cond) ∈ UU := uu_t5 (List.mem_of_getElem? (i := 54) rfl) rfl
theorem uu1419 : (.instanceMethod yX6_bridge : Cond) ∈ UU := uu_t5 (List.mem_of_getElem? (i := 55) rfl) rfl
theorem uu1420 : (.selects RX6 yX6_bridge yX6_bridge : Cond) ∈ UU := uu_t5 (List.mem_of_getElem? (i := 56) rfl) rfl
theorem uu1421 : (.code yX6_bridge cX6_bridge 7 (some .int) : Cond) ∈ UU := uu_t5 (List.mem_of_getElem? (i := 57) rfl) rfl
theorem uu1423 : (.methodLink RX6 210 yX6_stepsFrom : Cond) ∈ UU := uu_t5 (List.mem_of_getElem? (i := 58) rfl) rfl
theorem uu1425 : (.instanceMethod yX6_stepsFrom : Cond) ∈ UU := uu_t5 (List.mem_of_getElem? (i := 60) rfl) rfl
theorem uu1426 : (.code yX6_stepsFrom cX6_stepsFrom 6 (some .int) : Cond) ∈ UU := uu_t5 (List.mem_of_getElem? (i := 61) rfl) rfl
theorem uu1428 : (.methodLink RL 120 yX6_two : Cond) ∈ UU := uu_t5 (List.mem_of_getElem? (i := 62) rfl) rfl
theorem uu1430 : (.instanceMethod yX6_two : Cond) ∈ UU := uu_t5 (List.mem_of_getElem? (i := 63) rfl) rfl
theorem uu1431 : (.selects RX6 yX6_two yX6_two : Cond) ∈ UU := uu_t5 (List.mem_of_getElem? (i := 64) rfl) rfl
theorem uu1432 : (.code yX6_two cX6_two 6 (some .int) : Cond) ∈ UU := uu_t5 (List.mem_of_getElem? (i := 65) rfl) rfl
theorem uu1434 : (.methodLink RX6 216 yX6_shareBoth : Cond) ∈ UU := uu_t5 (List.mem_of_getElem? (i := 66) rfl) rfl
theorem uu1436 : (.instanceMethod yX6_shareBoth : Cond) ∈ UU := uu_t5 (List.mem_of_getElem? (i := 68) rfl) rfl
theorem uu1437 : (.code yX6_shareBoth cX6_shareBoth 7 (some .int) : Cond) ∈ UU := uu_t5 (List.mem_of_getElem? (i := 69) rfl) rfl
theorem uu1439 : (.methodLink RX6 213 yX6_firstBite : Cond) ∈ UU := uu_t5 (List.mem_of_getElem? (i := 70) rfl) rfl
theorem uu1441 : (.instanceMethod yX6_firstBite : Cond) ∈ UU := uu_t5 (List.mem_of_getElem? (i := 72) rfl) rfl
theorem uu1442 : (.code yX6_firstBite cX6_firstBite 4 (some .int) : Cond) ∈ UU := uu_t5 (List.mem_of_getElem? (i := 73) rfl) rfl
theorem uu1444 : (.methodLink RL 125 yX6_chance : Cond) ∈ UU := uu_t5 (List.mem_of_getElem? (i := 74) rfl) rfl
theorem uu1446 : (.instanceMethod yX6_chance : Cond) ∈ UU := uu_t5 (List.mem_of_getElem? (i := 75) rfl) rfl
theorem uu1447 : (.selects RX6 yX6_chance yX6_chance : Cond) ∈ UU := uu_t5 (List.mem_of_getElem? (i := 76) rfl) rfl
theorem uu1448 : (.code yX6_chance cX6_chance 8 (some .long) : Cond) ∈ UU := uu_t5 (List.mem_of_getElem? (i := 77) rfl) rfl
theorem uu1450 : (.methodLink RX6 228 yX6_noWide : Cond) ∈ UU := uu_t5 (List.mem_of_getElem? (i := 78) rfl) rfl
theorem uu1452 : (.instanceMethod yX6_noWide : Cond) ∈ UU := uu_t5 (List.mem_of_getElem? (i := 80) rfl) rfl
theorem uu1453 : (.code yX6_noWide cX6_noWide 2 (some .long) : Cond) ∈ UU := uu_t5 (List.mem_of_getElem? (i := 81) rfl) rfl
theorem uu1455 : (.constantLong RX6 56 (4000000000000000000) : Cond) ∈ UU := uu_t5 (List.mem_of_getElem? (i := 82) rfl) rfl
theorem uu1457 : (.methodLink RX6 224 yX6_waysFor : Cond) ∈ UU := uu_t5 (List.mem_of_getElem? (i := 83) rfl) rfl
theorem uu1459 : (.instanceMethod yX6_waysFor : Cond) ∈ UU := uu_t5 (List.mem_of_getElem? (i := 85) rfl) rfl
theorem uu1460 : (.code yX6_waysFor cX6_waysFor 8 (some .long) : Cond) ∈ UU := uu_t5 (List.mem_of_getElem? (i := 86) rfl) rfl
theorem uu1462 : (.methodLink RX6 232 yX6_partOf : Cond) ∈ UU := uu_t5 (List.mem_of_getElem? (i := 87) rfl) rfl
theorem uu1464 : (.static yX6_partOf : Cond) ∈ UU := uu_t5 (List.mem_of_getElem? (i := 88) rfl) rfl
theorem uu1465 : (.code yX6_partOf cX6_partOf 5 (some .long) : Cond) ∈ UU := uu_t5 (List.mem_of_getElem? (i := 89) rfl) rfl
theorem uu1467 : (.methodLink RX6 220 yX6_gcd : Cond) ∈ UU := uu_t5 (List.mem_of_getElem? (i := 90) rfl) rfl
theorem uu1469 : (.static yX6_gcd : Cond) ∈ UU := uu_t5 (List.mem_of_getElem? (i := 91) rfl) rfl
theorem uu1470 : (.code yX6_gcd cX6_gcd 10 (some .long) : Cond) ∈ UU := uu_t5 (List.mem_of_getElem? (i := 92) rfl) rfl
theorem uu1472 : (.methodLink RL 130 yX6_mean : Cond) ∈ UU := uu_t5 (List.mem_of_getElem? (i := 93) rfl) rfl
theorem uu1474 : (.instanceMethod yX6_mean : Cond) ∈ UU := uu_t5 (List.mem_of_getElem? (i := 94) rfl) rfl
theorem uu1475 : (.selects RX6 yX6_mean yX6_mean : Cond) ∈ UU := uu_t5 (List.mem_of_getElem? (i := 95) rfl) rfl
theorem uu1476 : (.code yX6_mean cX6_mean 2 (some .long) : Cond) ∈ UU := uu_t5 (List.mem_of_getElem? (i := 96) rfl) rfl
theorem uu1478 : (.methodLink RL 134 yX6_whatIs : Cond) ∈ UU := uu_t5 (List.mem_of_getElem? (i := 97) rfl) rfl
theorem uu1480 : (.instanceMethod yX6_whatIs : Cond) ∈ UU := uu_t5 (List.mem_of_getElem? (i := 98) rfl) rfl
theorem uu1481 : (.selects RX6 yX6_whatIs yX6_whatIs : Cond) ∈ UU := uu_t5 (List.mem_of_getElem? (i := 99) rfl) rfl
theorem uu1482 : (.code yX6_whatIs cX6_whatIs 7 (some .int) : Cond) ∈ UU := uu_t5 (List.mem_of_getElem? (i := 100) rfl) rfl
theorem uu1484 : (.methodLink RL 138 yX6_row : Cond) ∈ UU := uu_t5 (List.mem_of_getElem? (i := 101) rfl) rfl
theorem uu1486 : (.instanceMethod yX6_row : Cond) ∈ UU := uu_t5 (List.mem_of_getElem? (i := 102) rfl) rfl
theorem uu1487 : (.selects RX6 yX6_row yX6_row : Cond) ∈ UU := uu_t5 (List.mem_of_getElem? (i := 103) rfl) rfl
theorem uu1488 : (.code yX6_row cX6_row 3 (some .int) : Cond) ∈ UU := uu_t5 (List.mem_of_getElem? (i := 104) rfl) rfl
theorem uu1490 : (.methodLink RL 142 yX6_judge : Cond) ∈ UU := uu_t5 (List.mem_of_getElem? (i := 105) rfl) rfl
theorem uu1492 : (.instanceMethod yX6_judge : Cond) ∈ UU := uu_t5 (List.mem_of_getElem? (i := 106) rfl) rfl
theorem uu1493 : (.selects RX6 yX6_judge yX6_judge : Cond) ∈ UU := uu_t5 (List.mem_of_getElem? (i := 107) rfl) rfl
theorem uu1494 : (.code yX6_judge cX6_judge 3 (some .int) : Cond) ∈ UU := uu_t5 (List.mem_of_getElem? (i := 108) rfl) rfl
theorem uu1496 : (.methodLink RL 146 yX6_clear : Cond) ∈ UU := uu_t5 (List.mem_of_getElem? (i := 109) rfl) rfl
theorem uu1498 : (.instanceMethod yX6_clear : Cond) ∈ UU := uu_t5 (List.mem_of_getElem? (i := 110) rfl) rfl
theorem uu1499 : (.selects RX6 yX6_clear yX6_clear : Cond) ∈ UU := uu_t5 (List.mem_of_getElem? (i := 111) rfl) rfl
theorem uu1500 : (.code yX6_clear cX6_clear 2 (some .int) : Cond) ∈ UU := uu_t5 (List.mem_of_getElem? (i := 112) rfl) rfl
theorem uu1502 : (.methodLink RL 150 yX6_lots : Cond) ∈ UU := uu_t5 (List.mem_of_getElem? (i := 113) rfl) rfl
theorem uu1504 : (.instanceMethod yX6_lots : Cond) ∈ UU := uu_t5 (List.mem_of_getElem? (i := 114) rfl) rfl
theorem uu1505 : (.selects RX6 yX6_lots yX6_lots : Cond) ∈ UU := uu_t5 (List.mem_of_getElem? (i := 115) rfl) rfl
theorem uu1506 : (.code yX6_lots cX6_lots 10 (some .int) : Cond) ∈ UU := uu_t5 (List.mem_of_getElem? (i := 116) rfl) rfl
theorem uu1508 : (.methodLink RX6 245 yX6_drawn : Cond) ∈ UU := uu_t5 (List.mem_of_getElem? (i := 117) rfl) rfl
theorem uu1510 : (.instanceMethod yX6_drawn : Cond) ∈ UU := uu_t5 (List.mem_of_getElem? (i := 119) rfl) rfl
theorem uu1511 : (.code yX6_drawn cX6_drawn 2 (some .int) : Cond) ∈ UU := uu_t5 (List.mem_of_getElem? (i := 120) rfl) rfl
theorem uu1513 : (.constant RX6 242 (1664525) : Cond) ∈ UU := uu_t5 (List.mem_of_getElem? (i := 121) rfl) rfl
theorem uu1515 : (.constant RX6 243 (1013904223) : Cond) ∈ UU := uu_t5 (List.mem_of_getElem? (i := 122) rfl) rfl
theorem uu1517 : (.constant RX6 244 (2147483647) : Cond) ∈ UU := uu_t5 (List.mem_of_getElem? (i := 123) rfl) rfl
theorem uu1519 : (.methodLink RL 154 yX6_image : Cond) ∈ UU := uu_t5 (List.mem_of_getElem? (i := 124) rfl) rfl
theorem uu1521 : (.instanceMethod yX6_image : Cond) ∈ UU := uu_t5 (List.mem_of_getElem? (i := 125) rfl) rfl
theorem uu1522 : (.selects RX6 yX6_image yX6_image : Cond) ∈ UU := uu_t5 (List.mem_of_getElem? (i := 126) rfl) rfl
theorem uu1523 : (.code yX6_image cX6_image 2 (some .int) : Cond) ∈ UU := uu_t5 (List.mem_of_getElem? (i := 127) rfl) rfl
theorem uu1525 : (.methodLink RL 158 yX6_on : Cond) ∈ UU := uu_t5 (List.mem_of_getElem? (i := 128) rfl) rfl
theorem uu1527 : (.instanceMethod yX6_on : Cond) ∈ UU := uu_t5 (List.mem_of_getElem? (i := 129) rfl) rfl
theorem uu1528 : (.selects RX6 yX6_on yX6_on : Cond) ∈ UU := uu_t5 (List.mem_of_getElem? (i := 130) rfl) rfl
theorem uu1529 : (.code yX6_on cX6_on 2 (some .int) : Cond) ∈ UU := uu_t5 (List.mem_of_getElem? (i := 131) rfl) rfl
theorem uu1531 : (.methodLink RL 162 yX6_count : Cond) ∈ UU := uu_t5 (List.mem_of_getElem? (i := 132) rfl) rfl
theorem uu1533 : (.instanceMethod yX6_count : Cond) ∈ UU := uu_t5 (List.mem_of_getElem? (i := 133) rfl) rfl
theorem uu1534 : (.selects RX6 yX6_count yX6_count : Cond) ∈ UU := uu_t5 (List.mem_of_getElem? (i := 134) rfl) rfl
theorem uu1535 : (.code yX6_count cX6_count 2 (some .int) : Cond) ∈ UU := uu_t5 (List.mem_of_getElem? (i := 135) rfl) rfl
theorem uu1537 : (.fieldLink RJ0 9 "java/lang/String" "value" "[B" : Cond) ∈ UU := uu_t5 (List.mem_of_getElem? (i := 136) rfl) rfl
theorem uu1539 : (.fieldLink RJ0 15 "java/lang/String" "coder" "B" : Cond) ∈ UU := uu_t5 (List.mem_of_getElem? (i := 137) rfl) rfl
theorem uu1541 : (.selects RX5 yX5_refused yX5_refused : Cond) ∈ UU := uu_s (List.mem_of_getElem? (i := 0) rfl) rfl
theorem uu1542 : (.selects RX5 yX5_trialOfText yX5_trialOfText : Cond) ∈ UU := uu_s (List.mem_of_getElem? (i := 1) rfl) rfl
theorem uu1543 : (.selects RX4 yX4_letterAt yX4_letterAt : Cond) ∈ UU := uu_s (List.mem_of_getElem? (i := 2) rfl) rfl
theorem uu1544 : (.selects RX4 yX4_kindAt yX4_kindAt : Cond) ∈ UU := uu_s (List.mem_of_getElem? (i := 3) rfl) rfl
theorem uu1545 : (.selects RX4 yX4_digitAt yX4_digitAt : Cond) ∈ UU := uu_s (List.mem_of_getElem? (i := 4) rfl) rfl
theorem uu1546 : (.selects RX4 yX4_numberAt yX4_numberAt : Cond) ∈ UU := uu_s (List.mem_of_getElem? (i := 5) rfl) rfl
theorem uu1547 : (.selects RX5 yX5_isHeir yX5_isHeir : Cond) ∈ UU := uu_s (List.mem_of_getElem? (i := 6) rfl) rfl
theorem uu1548 : (.selects RX5 yX5_shareOf yX5_shareOf : Cond) ∈ UU := uu_s (List.mem_of_getElem? (i := 7) rfl) rfl
theorem uu1549 : (.selects RX5 yX5_readShare yX5_readShare : Cond) ∈ UU := uu_s (List.mem_of_getElem? (i := 8) rfl) rfl
theorem uu1550 : (.selects RX5 yX5_isLeft yX5_isLeft : Cond) ∈ UU := uu_s (List.mem_of_getElem? (i := 9) rfl) rfl
theorem uu1551 : (.selects RX5 yX5_sharesTogether yX5_sharesTogether : Cond) ∈ UU := uu_s (List.mem_of_getElem? (i := 10) rfl) rfl
theorem uu1552 : (.selects RX5 yX5_richest yX5_richest : Cond) ∈ UU := uu_s (List.mem_of_getElem? (i := 11) rfl) rfl
theorem uu1553 : (.selects RX1 yX1_empties yX1_empties : Cond) ∈ UU := uu_s (List.mem_of_getElem? (i := 12) rfl) rfl
theorem uu1554 : (.selects RX1 yX1_comesTo yX1_comesTo : Cond) ∈ UU := uu_s (List.mem_of_getElem? (i := 13) rfl) rfl
theorem uu1555 : (.selects RX1 yX1_steps yX1_steps : Cond) ∈ UU := uu_s (List.mem_of_getElem? (i := 14) rfl) rfl
theorem uu1556 : (.selects RX1 yX1_goesOn yX1_goesOn : Cond) ∈ UU := uu_s (List.mem_of_getElem? (i := 15) rfl) rfl
theorem uu1557 : (.selects RX5 yX5_isSettled yX5_isSettled : Cond) ∈ UU := uu_s (List.mem_of_getElem? (i := 16) rfl) rfl
theorem uu1558 : (.selects RX5 yX5_firstCellThatSettles yX5_firstCellThatSettles : Cond) ∈ UU := uu_s (List.mem_of_getElem? (i := 17) rfl) rfl
theorem uu1559 : (.selects RX5 yX5_firstOfTwoThatSettle yX5_firstOfTwoThatSettle : Cond) ∈ UU := uu_s (List.mem_of_getElem? (i := 18) rfl) rfl
theorem uu1560 : (.selects RX5 yX5_furthestBite yX5_furthestBite : Cond) ∈ UU := uu_s (List.mem_of_getElem? (i := 19) rfl) rfl
theorem uu1561 : (.selects RX5 yX5_toldBite yX5_toldBite : Cond) ∈ UU := uu_s (List.mem_of_getElem? (i := 20) rfl) rfl
theorem uu1562 : (.selects RX5 yX5_firstBiteTo yX5_firstBiteTo : Cond) ∈ UU := uu_s (List.mem_of_getElem? (i := 21) rfl) rfl
theorem uu1563 : (.selects RX5 yX5_firstOfTwoBitesTo yX5_firstOfTwoBitesTo : Cond) ∈ UU := uu_s (List.mem_of_getElem? (i := 22) rfl) rfl
theorem uu1564 : (.selects RX5 yX5_changesNobody yX5_changesNobody : Cond) ∈ UU := uu_s (List.mem_of_getElem? (i := 23) rfl) rfl
theorem uu1565 : (.selects RX5 yX5_areTwo yX5_areTwo : Cond) ∈ UU := uu_s (List.mem_of_getElem? (i := 24) rfl) rfl
theorem uu1566 : (.selects RX5 yX5_chosen yX5_chosen : Cond) ∈ UU := uu_s (List.mem_of_getElem? (i := 25) rfl) rfl
theorem uu1567 : (.selects RX5 yX5_singlesTo yX5_singlesTo : Cond) ∈ UU := uu_s (List.mem_of_getElem? (i := 26) rfl) rfl
theorem uu1568 : (.selects RX5 yX5_pairsTo yX5_pairsTo : Cond) ∈ UU := uu_s (List.mem_of_getElem? (i := 27) rfl) rfl
theorem uu1569 : (.selects RX5 yX5_fitsTold yX5_fitsTold : Cond) ∈ UU := uu_s (List.mem_of_getElem? (i := 28) rfl) rfl
theorem uu1570 : (.selects RX5 yX5_firstWronglyTold yX5_firstWronglyTold : Cond) ∈ UU := uu_s (List.mem_of_getElem? (i := 29) rfl) rfl
theorem uu1571 : (.selects RX6 yX6_no yX6_no : Cond) ∈ UU := uu_s (List.mem_of_getElem? (i := 30) rfl) rfl
theorem uu1572 : (.selects RX6 yX6_readsStatement yX6_readsStatement : Cond) ∈ UU := uu_s (List.mem_of_getElem? (i := 31) rfl) rfl
theorem uu1573 : (.selects RX6 yX6_here yX6_here : Cond) ∈ UU := uu_s (List.mem_of_getElem? (i := 32) rfl) rfl
theorem uu1574 : (.selects RX6 yX6_readsKind yX6_readsKind : Cond) ∈ UU := uu_s (List.mem_of_getElem? (i := 33) rfl) rfl
theorem uu1575 : (.selects RX6 yX6_readsNumber yX6_readsNumber : Cond) ∈ UU := uu_s (List.mem_of_getElem? (i := 34) rfl) rfl
theorem uu1576 : (.selects RX6 yX6_lays yX6_lays : Cond) ∈ UU := uu_s (List.mem_of_getElem? (i := 35) rfl) rfl
theorem uu1577 : (.selects RX6 yX6_isDone yX6_isDone : Cond) ∈ UU := uu_s (List.mem_of_getElem? (i := 36) rfl) rfl
theorem uu1578 : (.selects RX6 yX6_bitesOff yX6_bitesOff : Cond) ∈ UU := uu_s (List.mem_of_getElem? (i := 37) rfl) rfl
theorem uu1579 : (.selects RX6 yX6_allAgain yX6_allAgain : Cond) ∈ UU := uu_s (List.mem_of_getElem? (i := 38) rfl) rfl
theorem uu1580 : (.selects RX6 yX6_laysBack yX6_laysBack : Cond) ∈ UU := uu_s (List.mem_of_getElem? (i := 39) rfl) rfl
theorem uu1581 : (.selects RX6 yX6_isHeir yX6_isHeir : Cond) ∈ UU := uu_s (List.mem_of_getElem? (i := 40) rfl) rfl
theorem uu1582 : (.selects RX6 yX6_shareOf yX6_shareOf : Cond) ∈ UU := uu_s (List.mem_of_getElem? (i := 41) rfl) rfl
theorem uu1583 : (.selects RX6 yX6_sharesOf yX6_sharesOf : Cond) ∈ UU := uu_s (List.mem_of_getElem? (i := 42) rfl) rfl
theorem uu1584 : (.selects RX6 yX6_biteTold yX6_biteTold : Cond) ∈ UU := uu_s (List.mem_of_getElem? (i := 43) rfl) rfl
theorem uu1585 : (.selects RX6 yX6_biteFor yX6_biteFor : Cond) ∈ UU := uu_s (List.mem_of_getElem? (i := 44) rfl) rfl
theorem uu1586 : (.selects RX6 yX6_isSoBy yX6_isSoBy : Cond) ∈ UU := uu_s (List.mem_of_getElem? (i := 45) rfl) rfl
theorem uu1587 : (.selects RX6 yX6_firstSo yX6_firstSo : Cond) ∈ UU := uu_s (List.mem_of_getElem? (i := 46) rfl) rfl
theorem uu1588 : (.selects RX6 yX6_comesTo yX6_comesTo : Cond) ∈ UU := uu_s (List.mem_of_getElem? (i := 47) rfl) rfl
theorem uu1589 : (.selects RX6 yX6_areTwo yX6_areTwo : Cond) ∈ UU := uu_s (List.mem_of_getElem? (i := 48) rfl) rfl
theorem uu1590 : (.selects RX6 yX6_noFar yX6_noFar : Cond) ∈ UU := uu_s (List.mem_of_getElem? (i := 49) rfl) rfl
theorem uu1591 : (.selects RX6 yX6_stepsFrom yX6_stepsFrom : Cond) ∈ UU := uu_s (List.mem_of_getElem? (i := 50) rfl) rfl
theorem uu1592 : (.selects RX6 yX6_shareBoth yX6_shareBoth : Cond) ∈ UU := uu_s (List.mem_of_getElem? (i := 51) rfl) rfl
theorem uu1593 : (.selects RX6 yX6_firstBite yX6_firstBite : Cond) ∈ UU := uu_s (List.mem_of_getElem? (i := 52) rfl) rfl
theorem uu1594 : (.selects RX6 yX6_noWide yX6_noWide : Cond) ∈ UU := uu_s (List.mem_of_getElem? (i := 53) rfl) rfl
theorem uu1595 : (.selects RX6 yX6_waysFor yX6_waysFor : Cond) ∈ UU := uu_s (List.mem_of_getElem? (i := 54) rfl) rfl
theorem uu1596 : (.selects RX6 yX6_drawn yX6_drawn : Cond) ∈ UU := uu_s (List.mem_of_getElem? (i := 55) rfl) rfl
theorem uX0_eq : u_ws RX0 TX0 5 = ([.laysFinal "CoresAreWills$Core" "CoresAreWills$Core" "kinds" "[I", .laysFinal "CoresAreWills$Core" "CoresAreWills$Core" "figures" "[I", .lays "CoresAreWills$Core" "CoresAreWills$Core" "heirs" "I", .lays "CoresAreWills$Core" "CoresAreWills$Core" "left" "I", .lays "CoresAreWills$Core" "CoresAreWills$Core" "bitten" "I"] : List Cond) := rfl
theorem uX0 : ∀ w ∈ u_ws RX0 TX0 5, w ∈ UU := by
  rw [uX0_eq]
  exact List.forall_mem_cons.mpr ⟨uu59, List.forall_mem_cons.mpr ⟨uu60, List.forall_mem_cons.mpr ⟨uu61, List.forall_mem_cons.mpr ⟨uu62, List.forall_mem_cons.mpr ⟨uu63, fun _ h => absurd h List.not_mem_nil⟩⟩⟩⟩⟩
theorem uX1_eq : u_ws RX1 TX1 4 = ([.lays "CoresAreWills$Cover" "CoresAreWills$Cover" "ways" "[I", .lays "CoresAreWills$Cover" "CoresAreWills$Cover" "fewest" "[I", .lays "CoresAreWills$Cover" "CoresAreWills$Cover" "nextWays" "[I", .lays "CoresAreWills$Cover" "CoresAreWills$Cover" "nextFewest" "[I"] : List Cond) := rfl
theorem uX1 : ∀ w ∈ u_ws RX1 TX1 4, w ∈ UU := by
  rw [uX1_eq]
  exact List.forall_mem_cons.mpr ⟨uu109, List.forall_mem_cons.mpr ⟨uu110, List.forall_mem_cons.mpr ⟨uu111, List.forall_mem_cons.mpr ⟨uu112, fun _ h => absurd h List.not_mem_nil⟩⟩⟩⟩
theorem uX3_eq : u_ws RX3 TX3 4 = ([.lays "CoresAreWills$Reading" "CoresAreWills$Reading" "gone" "I", .lays "CoresAreWills$Reading" "CoresAreWills$Reading" "heaps" "I", .lays "CoresAreWills$Reading" "CoresAreWills$Reading" "fewestCells" "I", .lays "CoresAreWills$Reading" "CoresAreWills$Reading" "deed" "I"] : List Cond) := rfl
theorem uX3 : ∀ w ∈ u_ws RX3 TX3 4, w ∈ UU := by
  rw [uX3_eq]
  exact List.forall_mem_cons.mpr ⟨uu88, List.forall_mem_cons.mpr ⟨uu89, List.forall_mem_cons.mpr ⟨uu90, List.forall_mem_cons.mpr ⟨uu91, fun _ h => absurd h List.not_mem_nil⟩⟩⟩⟩
theorem uX4_eq : u_ws RX4 TX4 2 = ([.laysFinal "CoresAreWills$Text" "CoresAreWills$Text" "letters" "[I", .lays "CoresAreWills$Text" "CoresAreWills$Text" "length" "I"] : List Cond) := rfl
theorem uX4 : ∀ w ∈ u_ws RX4 TX4 2, w ∈ UU := by
  rw [uX4_eq]
  exact List.forall_mem_cons.mpr ⟨uu128, List.forall_mem_cons.mpr ⟨uu129, fun _ h => absurd h List.not_mem_nil⟩⟩
theorem uX5_eq : u_ws RX5 TX5 11 = ([.laysFinal "CoresAreWills" "CoresAreWills" "now" "LCoresAreWills$Core;", .laysFinal "CoresAreWills" "CoresAreWills" "kept" "LCoresAreWills$Core;", .laysFinal "CoresAreWills" "CoresAreWills" "trial" "LCoresAreWills$Core;", .laysFinal "CoresAreWills" "CoresAreWills" "reading" "LCoresAreWills$Reading;", .laysFinal "CoresAreWills" "CoresAreWills" "cover" "LCoresAreWills$Cover;", .laysFinal "CoresAreWills" "CoresAreWills" "text" "LCoresAreWills$Text;", .laysFinal "CoresAreWills" "CoresAreWills" "told" "[I", .laysFinal "CoresAreWills" "CoresAreWills" "refusals" "[I", .laysFinal "CoresAreWills" "CoresAreWills" "ends" "[I", .lays "CoresAreWills" "CoresAreWills" "tolds" "I", .lays "CoresAreWills" "CoresAreWills" "hasImage" "Z"] : List Cond) := rfl
theorem uX5 : ∀ w ∈ u_ws RX5 TX5 11, w ∈ UU := by
  rw [uX5_eq]
  exact List.forall_mem_cons.mpr ⟨uu152, List.forall_mem_cons.mpr ⟨uu153, List.forall_mem_cons.mpr ⟨uu154, List.forall_mem_cons.mpr ⟨uu155, List.forall_mem_cons.mpr ⟨uu156, List.forall_mem_cons.mpr ⟨uu157, List.forall_mem_cons.mpr ⟨uu158, List.forall_mem_cons.mpr ⟨uu159, List.forall_mem_cons.mpr ⟨uu160, List.forall_mem_cons.mpr ⟨uu161, List.forall_mem_cons.mpr ⟨uu162, fun _ h => absurd h List.not_mem_nil⟩⟩⟩⟩⟩⟩⟩⟩⟩⟩⟩
theorem uX6_eq : u_ws RX6 TX6 26 = ([.lays "CoresAreWillsModel" "CoresAreWillsModel" "left" "I", .lays "CoresAreWillsModel" "CoresAreWillsModel" "bites" "I", .lays "CoresAreWillsModel" "CoresAreWillsModel" "many" "I", .lays "CoresAreWillsModel" "CoresAreWillsModel" "imageLeft" "I", .lays "CoresAreWillsModel" "CoresAreWillsModel" "imageBites" "I", .lays "CoresAreWillsModel" "CoresAreWillsModel" "imageMany" "I", .lays "CoresAreWillsModel" "CoresAreWillsModel" "wasLeft" "I", .lays "CoresAreWillsModel" "CoresAreWillsModel" "wasBites" "I", .lays "CoresAreWillsModel" "CoresAreWillsModel" "wasMany" "I", .laysFinal "CoresAreWillsModel" "CoresAreWillsModel" "kind" "[I", .laysFinal "CoresAreWillsModel" "CoresAreWillsModel" "figure" "[I", .laysFinal "CoresAreWillsModel" "CoresAreWillsModel" "imageKind" "[I", .laysFinal "CoresAreWillsModel" "CoresAreWillsModel" "imageFigure" "[I", .laysFinal "CoresAreWillsModel" "CoresAreWillsModel" "wasKind" "[I", .laysFinal "CoresAreWillsModel" "CoresAreWillsModel" "wasFigure" "[I", .lays "CoresAreWillsModel" "CoresAreWillsModel" "hasImage" "Z", .laysFinal "CoresAreWillsModel" "CoresAreWillsModel" "letters" "[I", .laysFinal "CoresAreWillsModel" "CoresAreWillsModel" "row" "[I", .laysFinal "CoresAreWillsModel" "CoresAreWillsModel" "refused" "[I", .lays "CoresAreWillsModel" "CoresAreWillsModel" "letterMany" "I", .lays "CoresAreWillsModel" "CoresAreWillsModel" "rowMany" "I", .lays "CoresAreWillsModel" "CoresAreWillsModel" "place" "I", .laysFinal "CoresAreWillsModel" "CoresAreWillsModel" "numbers" "[I", .laysFinal "CoresAreWillsModel" "CoresAreWillsModel" "counted" "[I", .laysFinal "CoresAreWillsModel" "CoresAreWillsModel" "few" "[I", .lays "CoresAreWillsModel" "CoresAreWillsModel" "seed" "I"] : List Cond) := rfl
theorem uX6 : ∀ w ∈ u_ws RX6 TX6 26, w ∈ UU := by
  rw [uX6_eq]
  exact List.forall_mem_cons.mpr ⟨uu1038, List.forall_mem_cons.mpr ⟨uu1039, List.forall_mem_cons.mpr ⟨uu1040, List.forall_mem_cons.mpr ⟨uu1041, List.forall_mem_cons.mpr ⟨uu1042, List.forall_mem_cons.mpr ⟨uu1043, List.forall_mem_cons.mpr ⟨uu1044, List.forall_mem_cons.mpr ⟨uu1045, List.forall_mem_cons.mpr ⟨uu1046, List.forall_mem_cons.mpr ⟨uu1047, List.forall_mem_cons.mpr ⟨uu1048, List.forall_mem_cons.mpr ⟨uu1049, List.forall_mem_cons.mpr ⟨uu1050, List.forall_mem_cons.mpr ⟨uu1051, List.forall_mem_cons.mpr ⟨uu1052, List.forall_mem_cons.mpr ⟨uu1053, List.forall_mem_cons.mpr ⟨uu1054, List.forall_mem_cons.mpr ⟨uu1055, List.forall_mem_cons.mpr ⟨uu1056, List.forall_mem_cons.mpr ⟨uu1057, List.forall_mem_cons.mpr ⟨uu1058, List.forall_mem_cons.mpr ⟨uu1059, List.forall_mem_cons.mpr ⟨uu1060, List.forall_mem_cons.mpr ⟨uu1061, List.forall_mem_cons.mpr ⟨uu1062, List.forall_mem_cons.mpr ⟨uu1063, fun _ h => absurd h List.not_mem_nil⟩⟩⟩⟩⟩⟩⟩⟩⟩⟩⟩⟩⟩⟩⟩⟩⟩⟩⟩⟩⟩⟩⟩⟩⟩⟩
