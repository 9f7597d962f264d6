/-! the tables' words that are steady, one list for every method; each word a row (laid by wip/whole/emit.py) -/
def Tg : List Cond := lw_tbl.filter goodWord
theorem tg_in {w : Cond} (h : w ∈ tables_1) (g : goodWord w = true) : w ∈ Tg := List.mem_filter.mpr ⟨List.mem_append_right _ h, g⟩
theorem tg_1 {w : Cond} (h : w ∈ tables_1_1) (g : goodWord w = true) : w ∈ Tg := tg_in (show w ∈ tables_1 from (List.mem_append_left _ h)) g
theorem tg_2 {w : Cond} (h : w ∈ tables_1_2) (g : goodWord w = true) : w ∈ Tg := tg_in (show w ∈ tables_1 from (List.mem_append_right _ (List.mem_append_left _ h))) g
theorem tg_3 {w : Cond} (h : w ∈ tables_1_3) (g : goodWord w = true) : w ∈ Tg := tg_in (show w ∈ tables_1 from (List.mem_append_right _ (List.mem_append_right _ (List.mem_append_left _ h)))) g
theorem tg_4 {w : Cond} (h : w ∈ tables_1_4) (g : goodWord w = true) : w ∈ Tg := tg_in (show w ∈ tables_1 from (List.mem_append_right _ (List.mem_append_right _ (List.mem_append_right _ (List.mem_append_left _ h))))) g
theorem tg_5 {w : Cond} (h : w ∈ tables_1_5) (g : goodWord w = true) : w ∈ Tg := tg_in (show w ∈ tables_1 from (List.mem_append_right _ (List.mem_append_right _ (List.mem_append_right _ (List.mem_append_right _ (List.mem_append_left _ h)))))) g
theorem tg_6 {w : Cond} (h : w ∈ tables_1_6) (g : goodWord w = true) : w ∈ Tg := tg_in (show w ∈ tables_1 from (List.mem_append_right _ (List.mem_append_right _ (List.mem_append_right _ (List.mem_append_right _ (List.mem_append_right _ h)))))) g
theorem m0 : (Jvm.Cond.initialized "PathTimingLaw") ∈ Tg := tg_1 (List.mem_of_getElem? (i := 0) rfl) rfl
theorem m1 : (Jvm.Cond.initialized "PathTiming") ∈ Tg := tg_1 (List.mem_of_getElem? (i := 1) rfl) rfl
theorem m2 : (Jvm.Cond.initialized "PathTiming$Net") ∈ Tg := tg_1 (List.mem_of_getElem? (i := 2) rfl) rfl
theorem m3 : (Jvm.Cond.initialized "java/util/Arrays") ∈ Tg := tg_1 (List.mem_of_getElem? (i := 3) rfl) rfl
theorem m4 : (Jvm.Cond.initialized "PathTiming$GateOrder") ∈ Tg := tg_1 (List.mem_of_getElem? (i := 4) rfl) rfl
theorem m5 : (Jvm.Cond.initialized "PathTiming$ClockWays") ∈ Tg := tg_1 (List.mem_of_getElem? (i := 5) rfl) rfl
theorem m6 : (Jvm.Cond.initialized "PathTiming$Spread") ∈ Tg := tg_1 (List.mem_of_getElem? (i := 6) rfl) rfl
theorem m7 : (Jvm.Cond.initialized "PathTiming$Rooms") ∈ Tg := tg_1 (List.mem_of_getElem? (i := 7) rfl) rfl
theorem m8 : (Jvm.Cond.initialized "PathTiming$Arrivals") ∈ Tg := tg_1 (List.mem_of_getElem? (i := 8) rfl) rfl
theorem m9 : (Jvm.Cond.initialized "PathTiming$Slacks") ∈ Tg := tg_1 (List.mem_of_getElem? (i := 9) rfl) rfl
theorem m10 : (Jvm.Cond.initialized "PathTiming$WorstPaths") ∈ Tg := tg_1 (List.mem_of_getElem? (i := 10) rfl) rfl
theorem m11 : (Jvm.Cond.initialized "PathTiming$PathList") ∈ Tg := tg_1 (List.mem_of_getElem? (i := 11) rfl) rfl
theorem m12 : (Jvm.Cond.initialized "PathTimingModel") ∈ Tg := tg_1 (List.mem_of_getElem? (i := 12) rfl) rfl
theorem m13 : (Jvm.Cond.initialized "java/lang/Throwable") ∈ Tg := tg_1 (List.mem_of_getElem? (i := 13) rfl) rfl
theorem m14 : (Jvm.Cond.initialized "java/lang/Exception") ∈ Tg := tg_1 (List.mem_of_getElem? (i := 14) rfl) rfl
theorem m15 : (Jvm.Cond.initialized "java/lang/RuntimeException") ∈ Tg := tg_1 (List.mem_of_getElem? (i := 15) rfl) rfl
theorem m16 : (Jvm.Cond.initialized "java/lang/IllegalArgumentException") ∈ Tg := tg_1 (List.mem_of_getElem? (i := 16) rfl) rfl
theorem m17 : (Jvm.Cond.initialized "java/lang/Long") ∈ Tg := tg_1 (List.mem_of_getElem? (i := 17) rfl) rfl
theorem m18 : (Jvm.Cond.initialized "java/lang/Math") ∈ Tg := tg_1 (List.mem_of_getElem? (i := 18) rfl) rfl
theorem m19 : (Jvm.Cond.initialized "java/lang/IllegalStateException") ∈ Tg := tg_1 (List.mem_of_getElem? (i := 19) rfl) rfl
theorem m20 : (Jvm.Cond.initialized "java/lang/IndexOutOfBoundsException") ∈ Tg := tg_1 (List.mem_of_getElem? (i := 20) rfl) rfl
theorem m21 : (Jvm.Cond.initialized "java/lang/System") ∈ Tg := tg_1 (List.mem_of_getElem? (i := 21) rfl) rfl
theorem m22 : (Jvm.Cond.classLink "PathTimingLaw" (8 : Nat) "PathTiming") ∈ Tg := tg_1 (List.mem_of_getElem? (i := 22) rfl) rfl
theorem m23 : (Jvm.Cond.instantiable "PathTiming" (7 : Nat)) ∈ Tg := tg_1 (List.mem_of_getElem? (i := 23) rfl) rfl
theorem m24 : (Jvm.Cond.methodLink "PathTimingLaw" (73 : Nat) ({ cls := "PathTiming", name := "<init>", desc := "()V" } : Jvm.MethodName)) ∈ Tg := tg_1 (List.mem_of_getElem? (i := 24) rfl) rfl
theorem m25 : (Jvm.Cond.instanceMethod ({ cls := "PathTiming", name := "<init>", desc := "()V" } : Jvm.MethodName)) ∈ Tg := tg_1 (List.mem_of_getElem? (i := 25) rfl) rfl
theorem m26 : (Jvm.Cond.code ({ cls := "PathTiming", name := "<init>", desc := "()V" } : Jvm.MethodName) prog_1_method_1_code (3 : Nat) (Option.none : Option Jvm.ClassFile.FieldType)) ∈ Tg := tg_1 (List.mem_of_getElem? (i := 26) rfl) rfl
theorem m27 : (Jvm.Cond.methodLink "PathTiming" (3 : Nat) ({ cls := "java/lang/Object", name := "<init>", desc := "()V" } : Jvm.MethodName)) ∈ Tg := tg_1 (List.mem_of_getElem? (i := 27) rfl) rfl
theorem m28 : (Jvm.Cond.instanceMethod ({ cls := "java/lang/Object", name := "<init>", desc := "()V" } : Jvm.MethodName)) ∈ Tg := tg_1 (List.mem_of_getElem? (i := 28) rfl) rfl
theorem m29 : (Jvm.Cond.code ({ cls := "java/lang/Object", name := "<init>", desc := "()V" } : Jvm.MethodName) object_method_1_code (1 : Nat) (Option.none : Option Jvm.ClassFile.FieldType)) ∈ Tg := tg_1 (List.mem_of_getElem? (i := 29) rfl) rfl
theorem m30 : (Jvm.Cond.classLink "PathTiming" (9 : Nat) "PathTiming$Net") ∈ Tg := tg_1 (List.mem_of_getElem? (i := 30) rfl) rfl
theorem m31 : (Jvm.Cond.instantiable "PathTiming$Net" (15 : Nat)) ∈ Tg := tg_1 (List.mem_of_getElem? (i := 31) rfl) rfl
theorem m32 : (Jvm.Cond.methodLink "PathTiming" (11 : Nat) ({ cls := "PathTiming$Net", name := "<init>", desc := "()V" } : Jvm.MethodName)) ∈ Tg := tg_1 (List.mem_of_getElem? (i := 32) rfl) rfl
theorem m33 : (Jvm.Cond.instanceMethod ({ cls := "PathTiming$Net", name := "<init>", desc := "()V" } : Jvm.MethodName)) ∈ Tg := tg_1 (List.mem_of_getElem? (i := 33) rfl) rfl
theorem m34 : (Jvm.Cond.code ({ cls := "PathTiming$Net", name := "<init>", desc := "()V" } : Jvm.MethodName) prog_5_method_1_code (1 : Nat) (Option.none : Option Jvm.ClassFile.FieldType)) ∈ Tg := tg_1 (List.mem_of_getElem? (i := 34) rfl) rfl
theorem m35 : (Jvm.Cond.methodLink "PathTiming$Net" (3 : Nat) ({ cls := "java/lang/Object", name := "<init>", desc := "()V" } : Jvm.MethodName)) ∈ Tg := tg_1 (List.mem_of_getElem? (i := 35) rfl) rfl
theorem m36 : (Jvm.Cond.methodLink "PathTiming$Net" (58 : Nat) ({ cls := "java/util/Arrays", name := "fill", desc := "([II)V" } : Jvm.MethodName)) ∈ Tg := tg_1 (List.mem_of_getElem? (i := 36) rfl) rfl
theorem m37 : (Jvm.Cond.static ({ cls := "java/util/Arrays", name := "fill", desc := "([II)V" } : Jvm.MethodName)) ∈ Tg := tg_1 (List.mem_of_getElem? (i := 37) rfl) rfl
theorem m38 : (Jvm.Cond.code ({ cls := "java/util/Arrays", name := "fill", desc := "([II)V" } : Jvm.MethodName) prog_22_method_103_code (4 : Nat) (Option.none : Option Jvm.ClassFile.FieldType)) ∈ Tg := tg_1 (List.mem_of_getElem? (i := 38) rfl) rfl
theorem m39 : (Jvm.Cond.fieldLink "PathTiming$Net" (9 : Nat) "PathTiming$Net" "period" "I") ∈ Tg := tg_1 (List.mem_of_getElem? (i := 39) rfl) rfl
theorem m40 : (Jvm.Cond.fieldLink "PathTiming" (75 : Nat) "PathTiming$Net" "period" "I") ∈ Tg := tg_1 (List.mem_of_getElem? (i := 40) rfl) rfl
theorem m41 : (Jvm.Cond.fieldLink "PathTiming$Rooms" (49 : Nat) "PathTiming$Net" "period" "I") ∈ Tg := tg_1 (List.mem_of_getElem? (i := 41) rfl) rfl
theorem m42 : (Jvm.Cond.fieldLink "PathTiming$Slacks" (81 : Nat) "PathTiming$Net" "period" "I") ∈ Tg := tg_1 (List.mem_of_getElem? (i := 42) rfl) rfl
theorem m43 : (Jvm.Cond.fieldLink "PathTiming$Net" (15 : Nat) "PathTiming$Net" "width" "I") ∈ Tg := tg_1 (List.mem_of_getElem? (i := 43) rfl) rfl
theorem m44 : (Jvm.Cond.fieldLink "PathTiming" (79 : Nat) "PathTiming$Net" "width" "I") ∈ Tg := tg_1 (List.mem_of_getElem? (i := 44) rfl) rfl
theorem m45 : (Jvm.Cond.fieldLink "PathTiming$Slacks" (78 : Nat) "PathTiming$Net" "width" "I") ∈ Tg := tg_1 (List.mem_of_getElem? (i := 45) rfl) rfl
theorem m46 : (Jvm.Cond.fieldLink "PathTiming$ClockWays" (173 : Nat) "PathTiming$Net" "width" "I") ∈ Tg := tg_1 (List.mem_of_getElem? (i := 46) rfl) rfl
theorem m47 : (Jvm.Cond.fieldLink "PathTiming$Net" (18 : Nat) "PathTiming$Net" "size" "I") ∈ Tg := tg_1 (List.mem_of_getElem? (i := 47) rfl) rfl
theorem m48 : (Jvm.Cond.fieldLink "PathTiming$GateOrder" (26 : Nat) "PathTiming$Net" "size" "I") ∈ Tg := tg_1 (List.mem_of_getElem? (i := 48) rfl) rfl
theorem m49 : (Jvm.Cond.fieldLink "PathTiming$Arrivals" (31 : Nat) "PathTiming$Net" "size" "I") ∈ Tg := tg_1 (List.mem_of_getElem? (i := 49) rfl) rfl
theorem m50 : (Jvm.Cond.fieldLink "PathTiming$ClockWays" (79 : Nat) "PathTiming$Net" "size" "I") ∈ Tg := tg_1 (List.mem_of_getElem? (i := 50) rfl) rfl
theorem m51 : (Jvm.Cond.fieldLink "PathTiming$Slacks" (48 : Nat) "PathTiming$Net" "size" "I") ∈ Tg := tg_1 (List.mem_of_getElem? (i := 51) rfl) rfl
theorem m52 : (Jvm.Cond.fieldLink "PathTiming$WorstPaths" (52 : Nat) "PathTiming$Net" "size" "I") ∈ Tg := tg_1 (List.mem_of_getElem? (i := 52) rfl) rfl
theorem m53 : (Jvm.Cond.fieldLink "PathTiming" (213 : Nat) "PathTiming$Net" "size" "I") ∈ Tg := tg_1 (List.mem_of_getElem? (i := 53) rfl) rfl
theorem m54 : (Jvm.Cond.fieldLink "PathTiming$Net" (21 : Nat) "PathTiming$Net" "kind" "[I") ∈ Tg := tg_1 (List.mem_of_getElem? (i := 54) rfl) rfl
theorem m55 : (Jvm.Cond.fieldLink "PathTiming$ClockWays" (85 : Nat) "PathTiming$Net" "kind" "[I") ∈ Tg := tg_1 (List.mem_of_getElem? (i := 55) rfl) rfl
theorem m56 : (Jvm.Cond.fieldLink "PathTiming$GateOrder" (40 : Nat) "PathTiming$Net" "kind" "[I") ∈ Tg := tg_1 (List.mem_of_getElem? (i := 56) rfl) rfl
theorem m57 : (Jvm.Cond.fieldLink "PathTiming" (112 : Nat) "PathTiming$Net" "kind" "[I") ∈ Tg := tg_1 (List.mem_of_getElem? (i := 57) rfl) rfl
theorem m58 : (Jvm.Cond.fieldLink "PathTiming$WorstPaths" (165 : Nat) "PathTiming$Net" "kind" "[I") ∈ Tg := tg_1 (List.mem_of_getElem? (i := 58) rfl) rfl
theorem m59 : (Jvm.Cond.fieldLink "PathTiming$Net" (25 : Nat) "PathTiming$Net" "pins" "[I") ∈ Tg := tg_1 (List.mem_of_getElem? (i := 59) rfl) rfl
theorem m60 : (Jvm.Cond.fieldLink "PathTiming$GateOrder" (53 : Nat) "PathTiming$Net" "pins" "[I") ∈ Tg := tg_1 (List.mem_of_getElem? (i := 60) rfl) rfl
theorem m61 : (Jvm.Cond.fieldLink "PathTiming$Spread" (49 : Nat) "PathTiming$Net" "pins" "[I") ∈ Tg := tg_1 (List.mem_of_getElem? (i := 61) rfl) rfl
theorem m62 : (Jvm.Cond.fieldLink "PathTiming$WorstPaths" (117 : Nat) "PathTiming$Net" "pins" "[I") ∈ Tg := tg_1 (List.mem_of_getElem? (i := 62) rfl) rfl
theorem m63 : (Jvm.Cond.fieldLink "PathTiming$ClockWays" (131 : Nat) "PathTiming$Net" "pins" "[I") ∈ Tg := tg_1 (List.mem_of_getElem? (i := 63) rfl) rfl
theorem m64 : (Jvm.Cond.fieldLink "PathTiming$Net" (28 : Nat) "PathTiming$Net" "source" "[I") ∈ Tg := tg_1 (List.mem_of_getElem? (i := 64) rfl) rfl
theorem m65 : (Jvm.Cond.fieldLink "PathTiming$Arrivals" (61 : Nat) "PathTiming$Net" "source" "[I") ∈ Tg := tg_1 (List.mem_of_getElem? (i := 65) rfl) rfl
theorem m66 : (Jvm.Cond.fieldLink "PathTiming$ClockWays" (103 : Nat) "PathTiming$Net" "source" "[I") ∈ Tg := tg_1 (List.mem_of_getElem? (i := 66) rfl) rfl
theorem m67 : (Jvm.Cond.fieldLink "PathTiming$GateOrder" (56 : Nat) "PathTiming$Net" "source" "[I") ∈ Tg := tg_1 (List.mem_of_getElem? (i := 67) rfl) rfl
theorem m68 : (Jvm.Cond.fieldLink "PathTiming$WorstPaths" (80 : Nat) "PathTiming$Net" "source" "[I") ∈ Tg := tg_1 (List.mem_of_getElem? (i := 68) rfl) rfl
theorem m69 : (Jvm.Cond.fieldLink "PathTiming$Spread" (74 : Nat) "PathTiming$Net" "source" "[I") ∈ Tg := tg_1 (List.mem_of_getElem? (i := 69) rfl) rfl
theorem m70 : (Jvm.Cond.fieldLink "PathTiming$Slacks" (92 : Nat) "PathTiming$Net" "source" "[I") ∈ Tg := tg_1 (List.mem_of_getElem? (i := 70) rfl) rfl
theorem m71 : (Jvm.Cond.fieldLink "PathTiming$Net" (31 : Nat) "PathTiming$Net" "wireEarly" "[I") ∈ Tg := tg_1 (List.mem_of_getElem? (i := 71) rfl) rfl
theorem m72 : (Jvm.Cond.fieldLink "PathTiming$Arrivals" (68 : Nat) "PathTiming$Net" "wireEarly" "[I") ∈ Tg := tg_1 (List.mem_of_getElem? (i := 72) rfl) rfl
theorem m73 : (Jvm.Cond.fieldLink "PathTiming$ClockWays" (113 : Nat) "PathTiming$Net" "wireEarly" "[I") ∈ Tg := tg_1 (List.mem_of_getElem? (i := 73) rfl) rfl
theorem m74 : (Jvm.Cond.fieldLink "PathTiming$WorstPaths" (98 : Nat) "PathTiming$Net" "wireEarly" "[I") ∈ Tg := tg_1 (List.mem_of_getElem? (i := 74) rfl) rfl
theorem m75 : (Jvm.Cond.fieldLink "PathTiming$Slacks" (108 : Nat) "PathTiming$Net" "wireEarly" "[I") ∈ Tg := tg_1 (List.mem_of_getElem? (i := 75) rfl) rfl
theorem m76 : (Jvm.Cond.fieldLink "PathTiming$Net" (34 : Nat) "PathTiming$Net" "wireLate" "[I") ∈ Tg := tg_1 (List.mem_of_getElem? (i := 76) rfl) rfl
theorem m77 : (Jvm.Cond.fieldLink "PathTiming$Arrivals" (65 : Nat) "PathTiming$Net" "wireLate" "[I") ∈ Tg := tg_1 (List.mem_of_getElem? (i := 77) rfl) rfl
theorem m78 : (Jvm.Cond.fieldLink "PathTiming$ClockWays" (110 : Nat) "PathTiming$Net" "wireLate" "[I") ∈ Tg := tg_1 (List.mem_of_getElem? (i := 78) rfl) rfl
theorem m79 : (Jvm.Cond.fieldLink "PathTiming$WorstPaths" (101 : Nat) "PathTiming$Net" "wireLate" "[I") ∈ Tg := tg_1 (List.mem_of_getElem? (i := 79) rfl) rfl
theorem m80 : (Jvm.Cond.fieldLink "PathTiming$Slacks" (99 : Nat) "PathTiming$Net" "wireLate" "[I") ∈ Tg := tg_1 (List.mem_of_getElem? (i := 80) rfl) rfl
theorem m81 : (Jvm.Cond.fieldLink "PathTiming$Net" (37 : Nat) "PathTiming$Net" "senses" "[I") ∈ Tg := tg_1 (List.mem_of_getElem? (i := 81) rfl) rfl
theorem m82 : (Jvm.Cond.fieldLink "PathTiming" (116 : Nat) "PathTiming$Net" "senses" "[I") ∈ Tg := tg_1 (List.mem_of_getElem? (i := 82) rfl) rfl
theorem m83 : (Jvm.Cond.fieldLink "PathTiming$Net" (40 : Nat) "PathTiming$Net" "gateEarly" "[I") ∈ Tg := tg_1 (List.mem_of_getElem? (i := 83) rfl) rfl
theorem m84 : (Jvm.Cond.fieldLink "PathTiming$Net" (43 : Nat) "PathTiming$Net" "gateLate" "[I") ∈ Tg := tg_1 (List.mem_of_getElem? (i := 84) rfl) rfl
theorem m85 : (Jvm.Cond.fieldLink "PathTiming$Net" (46 : Nat) "PathTiming$Net" "startEarly" "[I") ∈ Tg := tg_1 (List.mem_of_getElem? (i := 85) rfl) rfl
theorem m86 : (Jvm.Cond.fieldLink "PathTiming$Arrivals" (77 : Nat) "PathTiming$Net" "startEarly" "[I") ∈ Tg := tg_1 (List.mem_of_getElem? (i := 86) rfl) rfl
theorem m87 : (Jvm.Cond.fieldLink "PathTiming$Spread" (61 : Nat) "PathTiming$Net" "startEarly" "[I") ∈ Tg := tg_1 (List.mem_of_getElem? (i := 87) rfl) rfl
theorem m88 : (Jvm.Cond.fieldLink "PathTiming$WorstPaths" (108 : Nat) "PathTiming$Net" "startEarly" "[I") ∈ Tg := tg_1 (List.mem_of_getElem? (i := 88) rfl) rfl
theorem m89 : (Jvm.Cond.fieldLink "PathTiming$Net" (49 : Nat) "PathTiming$Net" "startLate" "[I") ∈ Tg := tg_1 (List.mem_of_getElem? (i := 89) rfl) rfl
theorem m90 : (Jvm.Cond.fieldLink "PathTiming$Arrivals" (83 : Nat) "PathTiming$Net" "startLate" "[I") ∈ Tg := tg_1 (List.mem_of_getElem? (i := 90) rfl) rfl
theorem m91 : (Jvm.Cond.fieldLink "PathTiming$Spread" (64 : Nat) "PathTiming$Net" "startLate" "[I") ∈ Tg := tg_1 (List.mem_of_getElem? (i := 91) rfl) rfl
theorem m92 : (Jvm.Cond.fieldLink "PathTiming$WorstPaths" (111 : Nat) "PathTiming$Net" "startLate" "[I") ∈ Tg := tg_1 (List.mem_of_getElem? (i := 92) rfl) rfl
theorem m93 : (Jvm.Cond.fieldLink "PathTiming$Net" (52 : Nat) "PathTiming$Net" "setups" "[I") ∈ Tg := tg_1 (List.mem_of_getElem? (i := 93) rfl) rfl
theorem m94 : (Jvm.Cond.fieldLink "PathTiming$WorstPaths" (138 : Nat) "PathTiming$Net" "setups" "[I") ∈ Tg := tg_1 (List.mem_of_getElem? (i := 94) rfl) rfl
theorem m95 : (Jvm.Cond.fieldLink "PathTiming$Slacks" (102 : Nat) "PathTiming$Net" "setups" "[I") ∈ Tg := tg_1 (List.mem_of_getElem? (i := 95) rfl) rfl
theorem m96 : (Jvm.Cond.fieldLink "PathTiming" (134 : Nat) "PathTiming$Net" "setups" "[I") ∈ Tg := tg_1 (List.mem_of_getElem? (i := 96) rfl) rfl
theorem m97 : (Jvm.Cond.fieldLink "PathTiming$Net" (55 : Nat) "PathTiming$Net" "holds" "[I") ∈ Tg := tg_1 (List.mem_of_getElem? (i := 97) rfl) rfl
theorem m98 : (Jvm.Cond.fieldLink "PathTiming$WorstPaths" (141 : Nat) "PathTiming$Net" "holds" "[I") ∈ Tg := tg_1 (List.mem_of_getElem? (i := 98) rfl) rfl
theorem m99 : (Jvm.Cond.fieldLink "PathTiming$Slacks" (111 : Nat) "PathTiming$Net" "holds" "[I") ∈ Tg := tg_1 (List.mem_of_getElem? (i := 99) rfl) rfl
theorem m100 : (Jvm.Cond.fieldLink "PathTiming" (137 : Nat) "PathTiming$Net" "holds" "[I") ∈ Tg := tg_1 (List.mem_of_getElem? (i := 100) rfl) rfl
theorem m101 : (Jvm.Cond.lays "PathTiming$Net" "PathTiming$Net" "period" "I") ∈ Tg := tg_1 (List.mem_of_getElem? (i := 101) rfl) rfl
theorem m103 : (Jvm.Cond.lays "PathTiming$Net" "PathTiming$Net" "width" "I") ∈ Tg := tg_1 (List.mem_of_getElem? (i := 103) rfl) rfl
theorem m105 : (Jvm.Cond.lays "PathTiming$Net" "PathTiming$Net" "size" "I") ∈ Tg := tg_1 (List.mem_of_getElem? (i := 105) rfl) rfl
theorem m107 : (Jvm.Cond.laysFinal "PathTiming$Net" "PathTiming$Net" "kind" "[I") ∈ Tg := tg_1 (List.mem_of_getElem? (i := 107) rfl) rfl
theorem m109 : (Jvm.Cond.laysFinal "PathTiming$Net" "PathTiming$Net" "pins" "[I") ∈ Tg := tg_1 (List.mem_of_getElem? (i := 109) rfl) rfl
theorem m111 : (Jvm.Cond.laysFinal "PathTiming$Net" "PathTiming$Net" "source" "[I") ∈ Tg := tg_1 (List.mem_of_getElem? (i := 111) rfl) rfl
theorem m113 : (Jvm.Cond.laysFinal "PathTiming$Net" "PathTiming$Net" "wireEarly" "[I") ∈ Tg := tg_1 (List.mem_of_getElem? (i := 113) rfl) rfl
theorem m115 : (Jvm.Cond.laysFinal "PathTiming$Net" "PathTiming$Net" "wireLate" "[I") ∈ Tg := tg_1 (List.mem_of_getElem? (i := 115) rfl) rfl
theorem m117 : (Jvm.Cond.laysFinal "PathTiming$Net" "PathTiming$Net" "senses" "[I") ∈ Tg := tg_1 (List.mem_of_getElem? (i := 117) rfl) rfl
theorem m119 : (Jvm.Cond.laysFinal "PathTiming$Net" "PathTiming$Net" "gateEarly" "[I") ∈ Tg := tg_1 (List.mem_of_getElem? (i := 119) rfl) rfl
theorem m121 : (Jvm.Cond.laysFinal "PathTiming$Net" "PathTiming$Net" "gateLate" "[I") ∈ Tg := tg_1 (List.mem_of_getElem? (i := 121) rfl) rfl
theorem m123 : (Jvm.Cond.laysFinal "PathTiming$Net" "PathTiming$Net" "startEarly" "[I") ∈ Tg := tg_1 (List.mem_of_getElem? (i := 123) rfl) rfl
theorem m125 : (Jvm.Cond.laysFinal "PathTiming$Net" "PathTiming$Net" "startLate" "[I") ∈ Tg := tg_1 (List.mem_of_getElem? (i := 125) rfl) rfl
theorem m127 : (Jvm.Cond.laysFinal "PathTiming$Net" "PathTiming$Net" "setups" "[I") ∈ Tg := tg_1 (List.mem_of_getElem? (i := 127) rfl) rfl
theorem m129 : (Jvm.Cond.laysFinal "PathTiming$Net" "PathTiming$Net" "holds" "[I") ∈ Tg := tg_1 (List.mem_of_getElem? (i := 129) rfl) rfl
theorem m131 : (Jvm.Cond.superclass "PathTiming$Net" "java/lang/Object") ∈ Tg := tg_1 (List.mem_of_getElem? (i := 131) rfl) rfl
theorem m132 : (Jvm.Cond.arrayClass Jvm.ClassFile.FieldType.int) ∈ Tg := tg_1 (List.mem_of_getElem? (i := 132) rfl) rfl
theorem m133 : (Jvm.Cond.classLink "PathTiming" (16 : Nat) "PathTiming$GateOrder") ∈ Tg := tg_1 (List.mem_of_getElem? (i := 133) rfl) rfl
theorem m134 : (Jvm.Cond.instantiable "PathTiming$GateOrder" (4 : Nat)) ∈ Tg := tg_1 (List.mem_of_getElem? (i := 134) rfl) rfl
theorem m135 : (Jvm.Cond.methodLink "PathTiming" (18 : Nat) ({ cls := "PathTiming$GateOrder", name := "<init>", desc := "(LPathTiming$Net;)V" } : Jvm.MethodName)) ∈ Tg := tg_1 (List.mem_of_getElem? (i := 135) rfl) rfl
theorem m136 : (Jvm.Cond.instanceMethod ({ cls := "PathTiming$GateOrder", name := "<init>", desc := "(LPathTiming$Net;)V" } : Jvm.MethodName)) ∈ Tg := tg_1 (List.mem_of_getElem? (i := 136) rfl) rfl
theorem m137 : (Jvm.Cond.code ({ cls := "PathTiming$GateOrder", name := "<init>", desc := "(LPathTiming$Net;)V" } : Jvm.MethodName) prog_4_method_1_code (2 : Nat) (Option.none : Option Jvm.ClassFile.FieldType)) ∈ Tg := tg_1 (List.mem_of_getElem? (i := 137) rfl) rfl
theorem m138 : (Jvm.Cond.methodLink "PathTiming$GateOrder" (3 : Nat) ({ cls := "java/lang/Object", name := "<init>", desc := "()V" } : Jvm.MethodName)) ∈ Tg := tg_1 (List.mem_of_getElem? (i := 138) rfl) rfl
theorem m139 : (Jvm.Cond.fieldLink "PathTiming$GateOrder" (19 : Nat) "PathTiming$GateOrder" "net" "LPathTiming$Net;") ∈ Tg := tg_1 (List.mem_of_getElem? (i := 139) rfl) rfl
theorem m140 : (Jvm.Cond.fieldLink "PathTiming$GateOrder" (9 : Nat) "PathTiming$GateOrder" "leading" "[J") ∈ Tg := tg_1 (List.mem_of_getElem? (i := 140) rfl) rfl
theorem m141 : (Jvm.Cond.fieldLink "PathTiming$GateOrder" (15 : Nat) "PathTiming$GateOrder" "gates" "[I") ∈ Tg := tg_1 (List.mem_of_getElem? (i := 141) rfl) rfl
theorem m142 : (Jvm.Cond.fieldLink "PathTiming$Spread" (46 : Nat) "PathTiming$GateOrder" "gates" "[I") ∈ Tg := tg_1 (List.mem_of_getElem? (i := 142) rfl) rfl
theorem m143 : (Jvm.Cond.fieldLink "PathTiming$ClockWays" (134 : Nat) "PathTiming$GateOrder" "gates" "[I") ∈ Tg := tg_1 (List.mem_of_getElem? (i := 143) rfl) rfl
theorem m144 : (Jvm.Cond.fieldLink "PathTiming$GateOrder" (37 : Nat) "PathTiming$GateOrder" "count" "I") ∈ Tg := tg_1 (List.mem_of_getElem? (i := 144) rfl) rfl
theorem m145 : (Jvm.Cond.fieldLink "PathTiming$Spread" (41 : Nat) "PathTiming$GateOrder" "count" "I") ∈ Tg := tg_1 (List.mem_of_getElem? (i := 145) rfl) rfl
theorem m146 : (Jvm.Cond.fieldLink "PathTiming$ClockWays" (127 : Nat) "PathTiming$GateOrder" "count" "I") ∈ Tg := tg_1 (List.mem_of_getElem? (i := 146) rfl) rfl
theorem m147 : (Jvm.Cond.laysFinal "PathTiming$GateOrder" "PathTiming$GateOrder" "net" "LPathTiming$Net;") ∈ Tg := tg_1 (List.mem_of_getElem? (i := 147) rfl) rfl
theorem m149 : (Jvm.Cond.laysFinal "PathTiming$GateOrder" "PathTiming$GateOrder" "leading" "[J") ∈ Tg := tg_1 (List.mem_of_getElem? (i := 149) rfl) rfl
theorem m151 : (Jvm.Cond.laysFinal "PathTiming$GateOrder" "PathTiming$GateOrder" "gates" "[I") ∈ Tg := tg_1 (List.mem_of_getElem? (i := 151) rfl) rfl
theorem m153 : (Jvm.Cond.lays "PathTiming$GateOrder" "PathTiming$GateOrder" "count" "I") ∈ Tg := tg_1 (List.mem_of_getElem? (i := 153) rfl) rfl
theorem m155 : (Jvm.Cond.superclass "PathTiming$GateOrder" "java/lang/Object") ∈ Tg := tg_1 (List.mem_of_getElem? (i := 155) rfl) rfl
theorem m156 : (Jvm.Cond.arrayClass Jvm.ClassFile.FieldType.long) ∈ Tg := tg_1 (List.mem_of_getElem? (i := 156) rfl) rfl
theorem m157 : (Jvm.Cond.classLink "PathTiming" (25 : Nat) "PathTiming$ClockWays") ∈ Tg := tg_1 (List.mem_of_getElem? (i := 157) rfl) rfl
theorem m158 : (Jvm.Cond.instantiable "PathTiming$ClockWays" (17 : Nat)) ∈ Tg := tg_1 (List.mem_of_getElem? (i := 158) rfl) rfl
theorem m159 : (Jvm.Cond.methodLink "PathTiming" (27 : Nat) ({ cls := "PathTiming$ClockWays", name := "<init>", desc := "(LPathTiming$Net;LPathTiming$GateOrder;)V" } : Jvm.MethodName)) ∈ Tg := tg_1 (List.mem_of_getElem? (i := 159) rfl) rfl
theorem m160 : (Jvm.Cond.instanceMethod ({ cls := "PathTiming$ClockWays", name := "<init>", desc := "(LPathTiming$Net;LPathTiming$GateOrder;)V" } : Jvm.MethodName)) ∈ Tg := tg_1 (List.mem_of_getElem? (i := 160) rfl) rfl
theorem m161 : (Jvm.Cond.code ({ cls := "PathTiming$ClockWays", name := "<init>", desc := "(LPathTiming$Net;LPathTiming$GateOrder;)V" } : Jvm.MethodName) prog_3_method_1_code (3 : Nat) (Option.none : Option Jvm.ClassFile.FieldType)) ∈ Tg := tg_1 (List.mem_of_getElem? (i := 161) rfl) rfl
theorem m162 : (Jvm.Cond.methodLink "PathTiming$ClockWays" (3 : Nat) ({ cls := "java/lang/Object", name := "<init>", desc := "()V" } : Jvm.MethodName)) ∈ Tg := tg_1 (List.mem_of_getElem? (i := 162) rfl) rfl
theorem m163 : (Jvm.Cond.classLink "PathTiming$ClockWays" (60 : Nat) "PathTiming$Spread") ∈ Tg := tg_1 (List.mem_of_getElem? (i := 163) rfl) rfl
theorem m164 : (Jvm.Cond.instantiable "PathTiming$Spread" (5 : Nat)) ∈ Tg := tg_1 (List.mem_of_getElem? (i := 164) rfl) rfl
theorem m165 : (Jvm.Cond.methodLink "PathTiming$ClockWays" (62 : Nat) ({ cls := "PathTiming$Spread", name := "<init>", desc := "(LPathTiming$Net;LPathTiming$GateOrder;)V" } : Jvm.MethodName)) ∈ Tg := tg_1 (List.mem_of_getElem? (i := 165) rfl) rfl
theorem m166 : (Jvm.Cond.instanceMethod ({ cls := "PathTiming$Spread", name := "<init>", desc := "(LPathTiming$Net;LPathTiming$GateOrder;)V" } : Jvm.MethodName)) ∈ Tg := tg_1 (List.mem_of_getElem? (i := 166) rfl) rfl
theorem m167 : (Jvm.Cond.code ({ cls := "PathTiming$Spread", name := "<init>", desc := "(LPathTiming$Net;LPathTiming$GateOrder;)V" } : Jvm.MethodName) prog_9_method_1_code (3 : Nat) (Option.none : Option Jvm.ClassFile.FieldType)) ∈ Tg := tg_1 (List.mem_of_getElem? (i := 167) rfl) rfl
theorem m168 : (Jvm.Cond.methodLink "PathTiming$Spread" (3 : Nat) ({ cls := "java/lang/Object", name := "<init>", desc := "()V" } : Jvm.MethodName)) ∈ Tg := tg_1 (List.mem_of_getElem? (i := 168) rfl) rfl
theorem m169 : (Jvm.Cond.fieldLink "PathTiming$Spread" (21 : Nat) "PathTiming$Spread" "net" "LPathTiming$Net;") ∈ Tg := tg_1 (List.mem_of_getElem? (i := 169) rfl) rfl
theorem m170 : (Jvm.Cond.fieldLink "PathTiming$Spread" (25 : Nat) "PathTiming$Spread" "order" "LPathTiming$GateOrder;") ∈ Tg := tg_1 (List.mem_of_getElem? (i := 170) rfl) rfl
theorem m171 : (Jvm.Cond.fieldLink "PathTiming$Spread" (9 : Nat) "PathTiming$Spread" "count" "[I") ∈ Tg := tg_1 (List.mem_of_getElem? (i := 171) rfl) rfl
theorem m172 : (Jvm.Cond.fieldLink "PathTiming$Arrivals" (90 : Nat) "PathTiming$Spread" "count" "[I") ∈ Tg := tg_1 (List.mem_of_getElem? (i := 172) rfl) rfl
theorem m173 : (Jvm.Cond.fieldLink "PathTiming$WorstPaths" (94 : Nat) "PathTiming$Spread" "count" "[I") ∈ Tg := tg_1 (List.mem_of_getElem? (i := 173) rfl) rfl
theorem m174 : (Jvm.Cond.fieldLink "PathTiming$ClockWays" (126 : Nat) "PathTiming$Spread" "count" "[I") ∈ Tg := tg_1 (List.mem_of_getElem? (i := 174) rfl) rfl
theorem m175 : (Jvm.Cond.fieldLink "PathTiming$Slacks" (95 : Nat) "PathTiming$Spread" "count" "[I") ∈ Tg := tg_1 (List.mem_of_getElem? (i := 175) rfl) rfl
theorem m176 : (Jvm.Cond.fieldLink "PathTiming$Spread" (15 : Nat) "PathTiming$Spread" "early" "[I") ∈ Tg := tg_1 (List.mem_of_getElem? (i := 176) rfl) rfl
theorem m177 : (Jvm.Cond.fieldLink "PathTiming$Arrivals" (94 : Nat) "PathTiming$Spread" "early" "[I") ∈ Tg := tg_1 (List.mem_of_getElem? (i := 177) rfl) rfl
theorem m178 : (Jvm.Cond.fieldLink "PathTiming$Slacks" (105 : Nat) "PathTiming$Spread" "early" "[I") ∈ Tg := tg_1 (List.mem_of_getElem? (i := 178) rfl) rfl
theorem m179 : (Jvm.Cond.fieldLink "PathTiming$Spread" (18 : Nat) "PathTiming$Spread" "late" "[I") ∈ Tg := tg_1 (List.mem_of_getElem? (i := 179) rfl) rfl
theorem m180 : (Jvm.Cond.fieldLink "PathTiming$Arrivals" (91 : Nat) "PathTiming$Spread" "late" "[I") ∈ Tg := tg_1 (List.mem_of_getElem? (i := 180) rfl) rfl
theorem m181 : (Jvm.Cond.fieldLink "PathTiming$Slacks" (96 : Nat) "PathTiming$Spread" "late" "[I") ∈ Tg := tg_1 (List.mem_of_getElem? (i := 181) rfl) rfl
theorem m182 : (Jvm.Cond.laysFinal "PathTiming$Spread" "PathTiming$Spread" "net" "LPathTiming$Net;") ∈ Tg := tg_1 (List.mem_of_getElem? (i := 182) rfl) rfl
theorem m184 : (Jvm.Cond.laysFinal "PathTiming$Spread" "PathTiming$Spread" "order" "LPathTiming$GateOrder;") ∈ Tg := tg_1 (List.mem_of_getElem? (i := 184) rfl) rfl
theorem m186 : (Jvm.Cond.laysFinal "PathTiming$Spread" "PathTiming$Spread" "count" "[I") ∈ Tg := tg_1 (List.mem_of_getElem? (i := 186) rfl) rfl
theorem m188 : (Jvm.Cond.laysFinal "PathTiming$Spread" "PathTiming$Spread" "early" "[I") ∈ Tg := tg_1 (List.mem_of_getElem? (i := 188) rfl) rfl
theorem m190 : (Jvm.Cond.laysFinal "PathTiming$Spread" "PathTiming$Spread" "late" "[I") ∈ Tg := tg_1 (List.mem_of_getElem? (i := 190) rfl) rfl
theorem m192 : (Jvm.Cond.superclass "PathTiming$Spread" "java/lang/Object") ∈ Tg := tg_1 (List.mem_of_getElem? (i := 192) rfl) rfl
theorem m193 : (Jvm.Cond.arrayClass Jvm.ClassFile.FieldType.boolean) ∈ Tg := tg_1 (List.mem_of_getElem? (i := 193) rfl) rfl
theorem m194 : (Jvm.Cond.fieldLink "PathTiming$ClockWays" (52 : Nat) "PathTiming$ClockWays" "net" "LPathTiming$Net;") ∈ Tg := tg_1 (List.mem_of_getElem? (i := 194) rfl) rfl
theorem m195 : (Jvm.Cond.fieldLink "PathTiming$ClockWays" (56 : Nat) "PathTiming$ClockWays" "order" "LPathTiming$GateOrder;") ∈ Tg := tg_1 (List.mem_of_getElem? (i := 195) rfl) rfl
theorem m196 : (Jvm.Cond.fieldLink "PathTiming$ClockWays" (65 : Nat) "PathTiming$ClockWays" "counts" "LPathTiming$Spread;") ∈ Tg := tg_1 (List.mem_of_getElem? (i := 196) rfl) rfl
theorem m197 : (Jvm.Cond.fieldLink "PathTiming$ClockWays" (9 : Nat) "PathTiming$ClockWays" "needed" "[Z") ∈ Tg := tg_1 (List.mem_of_getElem? (i := 197) rfl) rfl
theorem m198 : (Jvm.Cond.fieldLink "PathTiming$ClockWays" (145 : Nat) "PathTiming$ClockWays" "size" "I") ∈ Tg := tg_1 (List.mem_of_getElem? (i := 198) rfl) rfl
theorem m199 : (Jvm.Cond.fieldLink "PathTiming$ClockWays" (15 : Nat) "PathTiming$ClockWays" "elements" "[I") ∈ Tg := tg_1 (List.mem_of_getElem? (i := 199) rfl) rfl
theorem m200 : (Jvm.Cond.fieldLink "PathTiming$ClockWays" (19 : Nat) "PathTiming$ClockWays" "parent" "[I") ∈ Tg := tg_1 (List.mem_of_getElem? (i := 200) rfl) rfl
theorem m201 : (Jvm.Cond.fieldLink "PathTiming$ClockWays" (22 : Nat) "PathTiming$ClockWays" "length" "[I") ∈ Tg := tg_1 (List.mem_of_getElem? (i := 201) rfl) rfl
theorem m202 : (Jvm.Cond.fieldLink "PathTiming$ClockWays" (25 : Nat) "PathTiming$ClockWays" "early" "[I") ∈ Tg := tg_1 (List.mem_of_getElem? (i := 202) rfl) rfl
theorem m203 : (Jvm.Cond.fieldLink "PathTiming$ClockWays" (28 : Nat) "PathTiming$ClockWays" "late" "[I") ∈ Tg := tg_1 (List.mem_of_getElem? (i := 203) rfl) rfl
theorem m204 : (Jvm.Cond.fieldLink "PathTiming$ClockWays" (31 : Nat) "PathTiming$ClockWays" "firstOf" "[I") ∈ Tg := tg_1 (List.mem_of_getElem? (i := 204) rfl) rfl
theorem m205 : (Jvm.Cond.fieldLink "PathTiming$ClockWays" (34 : Nat) "PathTiming$ClockWays" "nextOf" "[I") ∈ Tg := tg_1 (List.mem_of_getElem? (i := 205) rfl) rfl
theorem m206 : (Jvm.Cond.fieldLink "PathTiming$ClockWays" (37 : Nat) "PathTiming$ClockWays" "count" "[I") ∈ Tg := tg_1 (List.mem_of_getElem? (i := 206) rfl) rfl
theorem m207 : (Jvm.Cond.fieldLink "PathTiming$Rooms" (37 : Nat) "PathTiming$ClockWays" "count" "[I") ∈ Tg := tg_1 (List.mem_of_getElem? (i := 207) rfl) rfl
theorem m208 : (Jvm.Cond.fieldLink "PathTiming$Arrivals" (41 : Nat) "PathTiming$ClockWays" "count" "[I") ∈ Tg := tg_1 (List.mem_of_getElem? (i := 208) rfl) rfl
theorem m209 : (Jvm.Cond.fieldLink "PathTiming$Slacks" (59 : Nat) "PathTiming$ClockWays" "count" "[I") ∈ Tg := tg_1 (List.mem_of_getElem? (i := 209) rfl) rfl
theorem m210 : (Jvm.Cond.fieldLink "PathTiming$WorstPaths" (64 : Nat) "PathTiming$ClockWays" "count" "[I") ∈ Tg := tg_1 (List.mem_of_getElem? (i := 210) rfl) rfl
theorem m211 : (Jvm.Cond.fieldLink "PathTiming" (167 : Nat) "PathTiming$ClockWays" "count" "[I") ∈ Tg := tg_1 (List.mem_of_getElem? (i := 211) rfl) rfl
theorem m212 : (Jvm.Cond.fieldLink "PathTiming$ClockWays" (40 : Nat) "PathTiming$ClockWays" "last" "[I") ∈ Tg := tg_1 (List.mem_of_getElem? (i := 212) rfl) rfl
theorem m213 : (Jvm.Cond.fieldLink "PathTiming$ClockWays" (43 : Nat) "PathTiming$ClockWays" "base" "[I") ∈ Tg := tg_1 (List.mem_of_getElem? (i := 213) rfl) rfl
theorem m214 : (Jvm.Cond.fieldLink "PathTiming$Rooms" (46 : Nat) "PathTiming$ClockWays" "base" "[I") ∈ Tg := tg_1 (List.mem_of_getElem? (i := 214) rfl) rfl
theorem m215 : (Jvm.Cond.fieldLink "PathTiming$Arrivals" (71 : Nat) "PathTiming$ClockWays" "base" "[I") ∈ Tg := tg_1 (List.mem_of_getElem? (i := 215) rfl) rfl
theorem m216 : (Jvm.Cond.fieldLink "PathTiming$ClockWays" (46 : Nat) "PathTiming$ClockWays" "wayEarly" "[I") ∈ Tg := tg_1 (List.mem_of_getElem? (i := 216) rfl) rfl
theorem m217 : (Jvm.Cond.fieldLink "PathTiming$Rooms" (58 : Nat) "PathTiming$ClockWays" "wayEarly" "[I") ∈ Tg := tg_1 (List.mem_of_getElem? (i := 217) rfl) rfl
theorem m218 : (Jvm.Cond.fieldLink "PathTiming$Arrivals" (74 : Nat) "PathTiming$ClockWays" "wayEarly" "[I") ∈ Tg := tg_1 (List.mem_of_getElem? (i := 218) rfl) rfl
theorem m219 : (Jvm.Cond.fieldLink "PathTiming$ClockWays" (49 : Nat) "PathTiming$ClockWays" "wayLate" "[I") ∈ Tg := tg_1 (List.mem_of_getElem? (i := 219) rfl) rfl
theorem m220 : (Jvm.Cond.fieldLink "PathTiming$Rooms" (61 : Nat) "PathTiming$ClockWays" "wayLate" "[I") ∈ Tg := tg_1 (List.mem_of_getElem? (i := 220) rfl) rfl
theorem m221 : (Jvm.Cond.fieldLink "PathTiming$Arrivals" (80 : Nat) "PathTiming$ClockWays" "wayLate" "[I") ∈ Tg := tg_1 (List.mem_of_getElem? (i := 221) rfl) rfl
theorem m222 : (Jvm.Cond.laysFinal "PathTiming$ClockWays" "PathTiming$ClockWays" "net" "LPathTiming$Net;") ∈ Tg := tg_1 (List.mem_of_getElem? (i := 222) rfl) rfl
theorem m224 : (Jvm.Cond.laysFinal "PathTiming$ClockWays" "PathTiming$ClockWays" "order" "LPathTiming$GateOrder;") ∈ Tg := tg_1 (List.mem_of_getElem? (i := 224) rfl) rfl
theorem m226 : (Jvm.Cond.laysFinal "PathTiming$ClockWays" "PathTiming$ClockWays" "counts" "LPathTiming$Spread;") ∈ Tg := tg_1 (List.mem_of_getElem? (i := 226) rfl) rfl
theorem m228 : (Jvm.Cond.laysFinal "PathTiming$ClockWays" "PathTiming$ClockWays" "needed" "[Z") ∈ Tg := tg_1 (List.mem_of_getElem? (i := 228) rfl) rfl
theorem m230 : (Jvm.Cond.lays "PathTiming$ClockWays" "PathTiming$ClockWays" "size" "I") ∈ Tg := tg_1 (List.mem_of_getElem? (i := 230) rfl) rfl
theorem m232 : (Jvm.Cond.laysFinal "PathTiming$ClockWays" "PathTiming$ClockWays" "elements" "[I") ∈ Tg := tg_1 (List.mem_of_getElem? (i := 232) rfl) rfl
theorem m234 : (Jvm.Cond.laysFinal "PathTiming$ClockWays" "PathTiming$ClockWays" "parent" "[I") ∈ Tg := tg_1 (List.mem_of_getElem? (i := 234) rfl) rfl
theorem m236 : (Jvm.Cond.laysFinal "PathTiming$ClockWays" "PathTiming$ClockWays" "length" "[I") ∈ Tg := tg_1 (List.mem_of_getElem? (i := 236) rfl) rfl
theorem m238 : (Jvm.Cond.laysFinal "PathTiming$ClockWays" "PathTiming$ClockWays" "early" "[I") ∈ Tg := tg_1 (List.mem_of_getElem? (i := 238) rfl) rfl
theorem m240 : (Jvm.Cond.laysFinal "PathTiming$ClockWays" "PathTiming$ClockWays" "late" "[I") ∈ Tg := tg_2 (List.mem_of_getElem? (i := 0) rfl) rfl
theorem m242 : (Jvm.Cond.laysFinal "PathTiming$ClockWays" "PathTiming$ClockWays" "firstOf" "[I") ∈ Tg := tg_2 (List.mem_of_getElem? (i := 2) rfl) rfl
theorem m244 : (Jvm.Cond.laysFinal "PathTiming$ClockWays" "PathTiming$ClockWays" "nextOf" "[I") ∈ Tg := tg_2 (List.mem_of_getElem? (i := 4) rfl) rfl
theorem m246 : (Jvm.Cond.laysFinal "PathTiming$ClockWays" "PathTiming$ClockWays" "count" "[I") ∈ Tg := tg_2 (List.mem_of_getElem? (i := 6) rfl) rfl
theorem m248 : (Jvm.Cond.laysFinal "PathTiming$ClockWays" "PathTiming$ClockWays" "last" "[I") ∈ Tg := tg_2 (List.mem_of_getElem? (i := 8) rfl) rfl
theorem m250 : (Jvm.Cond.laysFinal "PathTiming$ClockWays" "PathTiming$ClockWays" "base" "[I") ∈ Tg := tg_2 (List.mem_of_getElem? (i := 10) rfl) rfl
theorem m252 : (Jvm.Cond.laysFinal "PathTiming$ClockWays" "PathTiming$ClockWays" "wayEarly" "[I") ∈ Tg := tg_2 (List.mem_of_getElem? (i := 12) rfl) rfl
theorem m254 : (Jvm.Cond.laysFinal "PathTiming$ClockWays" "PathTiming$ClockWays" "wayLate" "[I") ∈ Tg := tg_2 (List.mem_of_getElem? (i := 14) rfl) rfl
theorem m256 : (Jvm.Cond.superclass "PathTiming$ClockWays" "java/lang/Object") ∈ Tg := tg_2 (List.mem_of_getElem? (i := 16) rfl) rfl
theorem m257 : (Jvm.Cond.classLink "PathTiming" (34 : Nat) "PathTiming$Spread") ∈ Tg := tg_2 (List.mem_of_getElem? (i := 17) rfl) rfl
theorem m258 : (Jvm.Cond.methodLink "PathTiming" (36 : Nat) ({ cls := "PathTiming$Spread", name := "<init>", desc := "(LPathTiming$Net;LPathTiming$GateOrder;)V" } : Jvm.MethodName)) ∈ Tg := tg_2 (List.mem_of_getElem? (i := 18) rfl) rfl
theorem m259 : (Jvm.Cond.classLink "PathTiming" (37 : Nat) "PathTiming$Rooms") ∈ Tg := tg_2 (List.mem_of_getElem? (i := 19) rfl) rfl
theorem m260 : (Jvm.Cond.instantiable "PathTiming$Rooms" (7 : Nat)) ∈ Tg := tg_2 (List.mem_of_getElem? (i := 20) rfl) rfl
theorem m261 : (Jvm.Cond.methodLink "PathTiming" (39 : Nat) ({ cls := "PathTiming$Rooms", name := "<init>", desc := "(LPathTiming$Net;LPathTiming$ClockWays;)V" } : Jvm.MethodName)) ∈ Tg := tg_2 (List.mem_of_getElem? (i := 21) rfl) rfl
theorem m262 : (Jvm.Cond.instanceMethod ({ cls := "PathTiming$Rooms", name := "<init>", desc := "(LPathTiming$Net;LPathTiming$ClockWays;)V" } : Jvm.MethodName)) ∈ Tg := tg_2 (List.mem_of_getElem? (i := 22) rfl) rfl
theorem m263 : (Jvm.Cond.code ({ cls := "PathTiming$Rooms", name := "<init>", desc := "(LPathTiming$Net;LPathTiming$ClockWays;)V" } : Jvm.MethodName) prog_7_method_1_code (3 : Nat) (Option.none : Option Jvm.ClassFile.FieldType)) ∈ Tg := tg_2 (List.mem_of_getElem? (i := 23) rfl) rfl
theorem m264 : (Jvm.Cond.methodLink "PathTiming$Rooms" (3 : Nat) ({ cls := "java/lang/Object", name := "<init>", desc := "()V" } : Jvm.MethodName)) ∈ Tg := tg_2 (List.mem_of_getElem? (i := 24) rfl) rfl
theorem m265 : (Jvm.Cond.fieldLink "PathTiming$Rooms" (18 : Nat) "PathTiming$Rooms" "net" "LPathTiming$Net;") ∈ Tg := tg_2 (List.mem_of_getElem? (i := 25) rfl) rfl
theorem m266 : (Jvm.Cond.fieldLink "PathTiming$Rooms" (22 : Nat) "PathTiming$Rooms" "clockWays" "LPathTiming$ClockWays;") ∈ Tg := tg_2 (List.mem_of_getElem? (i := 26) rfl) rfl
theorem m267 : (Jvm.Cond.fieldLink "PathTiming$Rooms" (9 : Nat) "PathTiming$Rooms" "setup" "[I") ∈ Tg := tg_2 (List.mem_of_getElem? (i := 27) rfl) rfl
theorem m268 : (Jvm.Cond.fieldLink "PathTiming$WorstPaths" (144 : Nat) "PathTiming$Rooms" "setup" "[I") ∈ Tg := tg_2 (List.mem_of_getElem? (i := 28) rfl) rfl
theorem m269 : (Jvm.Cond.fieldLink "PathTiming$Rooms" (15 : Nat) "PathTiming$Rooms" "hold" "[I") ∈ Tg := tg_2 (List.mem_of_getElem? (i := 29) rfl) rfl
theorem m270 : (Jvm.Cond.fieldLink "PathTiming$WorstPaths" (147 : Nat) "PathTiming$Rooms" "hold" "[I") ∈ Tg := tg_2 (List.mem_of_getElem? (i := 30) rfl) rfl
theorem m271 : (Jvm.Cond.fieldLink "PathTiming$Rooms" (27 : Nat) "PathTiming$Rooms" "leastMoving" "I") ∈ Tg := tg_2 (List.mem_of_getElem? (i := 31) rfl) rfl
theorem m272 : (Jvm.Cond.fieldLink "PathTiming$Slacks" (123 : Nat) "PathTiming$Rooms" "leastMoving" "I") ∈ Tg := tg_2 (List.mem_of_getElem? (i := 32) rfl) rfl
theorem m273 : (Jvm.Cond.fieldLink "PathTiming$Rooms" (31 : Nat) "PathTiming$Rooms" "leastFixed" "I") ∈ Tg := tg_2 (List.mem_of_getElem? (i := 33) rfl) rfl
theorem m274 : (Jvm.Cond.fieldLink "PathTiming$Slacks" (124 : Nat) "PathTiming$Rooms" "leastFixed" "I") ∈ Tg := tg_2 (List.mem_of_getElem? (i := 34) rfl) rfl
theorem m275 : (Jvm.Cond.fieldLink "PathTiming$Rooms" (34 : Nat) "PathTiming$Rooms" "leastHold" "I") ∈ Tg := tg_2 (List.mem_of_getElem? (i := 35) rfl) rfl
theorem m276 : (Jvm.Cond.fieldLink "PathTiming$Slacks" (125 : Nat) "PathTiming$Rooms" "leastHold" "I") ∈ Tg := tg_2 (List.mem_of_getElem? (i := 36) rfl) rfl
theorem m277 : (Jvm.Cond.laysFinal "PathTiming$Rooms" "PathTiming$Rooms" "net" "LPathTiming$Net;") ∈ Tg := tg_2 (List.mem_of_getElem? (i := 37) rfl) rfl
theorem m279 : (Jvm.Cond.laysFinal "PathTiming$Rooms" "PathTiming$Rooms" "clockWays" "LPathTiming$ClockWays;") ∈ Tg := tg_2 (List.mem_of_getElem? (i := 39) rfl) rfl
theorem m281 : (Jvm.Cond.laysFinal "PathTiming$Rooms" "PathTiming$Rooms" "setup" "[I") ∈ Tg := tg_2 (List.mem_of_getElem? (i := 41) rfl) rfl
theorem m283 : (Jvm.Cond.laysFinal "PathTiming$Rooms" "PathTiming$Rooms" "hold" "[I") ∈ Tg := tg_2 (List.mem_of_getElem? (i := 43) rfl) rfl
theorem m285 : (Jvm.Cond.lays "PathTiming$Rooms" "PathTiming$Rooms" "leastMoving" "I") ∈ Tg := tg_2 (List.mem_of_getElem? (i := 45) rfl) rfl
theorem m287 : (Jvm.Cond.lays "PathTiming$Rooms" "PathTiming$Rooms" "leastFixed" "I") ∈ Tg := tg_2 (List.mem_of_getElem? (i := 47) rfl) rfl
theorem m289 : (Jvm.Cond.lays "PathTiming$Rooms" "PathTiming$Rooms" "leastHold" "I") ∈ Tg := tg_2 (List.mem_of_getElem? (i := 49) rfl) rfl
theorem m291 : (Jvm.Cond.superclass "PathTiming$Rooms" "java/lang/Object") ∈ Tg := tg_2 (List.mem_of_getElem? (i := 51) rfl) rfl
theorem m292 : (Jvm.Cond.classLink "PathTiming" (42 : Nat) "PathTiming$Arrivals") ∈ Tg := tg_2 (List.mem_of_getElem? (i := 52) rfl) rfl
theorem m293 : (Jvm.Cond.instantiable "PathTiming$Arrivals" (4 : Nat)) ∈ Tg := tg_2 (List.mem_of_getElem? (i := 53) rfl) rfl
theorem m294 : (Jvm.Cond.methodLink "PathTiming" (44 : Nat) ({ cls := "PathTiming$Arrivals", name := "<init>", desc := "(LPathTiming$Net;LPathTiming$ClockWays;LPathTiming$Spread;LPathTiming$Spread;)V" } : Jvm.MethodName)) ∈ Tg := tg_2 (List.mem_of_getElem? (i := 54) rfl) rfl
theorem m295 : (Jvm.Cond.instanceMethod ({ cls := "PathTiming$Arrivals", name := "<init>", desc := "(LPathTiming$Net;LPathTiming$ClockWays;LPathTiming$Spread;LPathTiming$Spread;)V" } : Jvm.MethodName)) ∈ Tg := tg_2 (List.mem_of_getElem? (i := 55) rfl) rfl
theorem m296 : (Jvm.Cond.code ({ cls := "PathTiming$Arrivals", name := "<init>", desc := "(LPathTiming$Net;LPathTiming$ClockWays;LPathTiming$Spread;LPathTiming$Spread;)V" } : Jvm.MethodName) prog_2_method_1_code (5 : Nat) (Option.none : Option Jvm.ClassFile.FieldType)) ∈ Tg := tg_2 (List.mem_of_getElem? (i := 56) rfl) rfl
theorem m297 : (Jvm.Cond.methodLink "PathTiming$Arrivals" (3 : Nat) ({ cls := "java/lang/Object", name := "<init>", desc := "()V" } : Jvm.MethodName)) ∈ Tg := tg_2 (List.mem_of_getElem? (i := 57) rfl) rfl
theorem m298 : (Jvm.Cond.fieldLink "PathTiming$Arrivals" (9 : Nat) "PathTiming$Arrivals" "net" "LPathTiming$Net;") ∈ Tg := tg_2 (List.mem_of_getElem? (i := 58) rfl) rfl
theorem m299 : (Jvm.Cond.fieldLink "PathTiming$Arrivals" (15 : Nat) "PathTiming$Arrivals" "clockWays" "LPathTiming$ClockWays;") ∈ Tg := tg_2 (List.mem_of_getElem? (i := 59) rfl) rfl
theorem m300 : (Jvm.Cond.fieldLink "PathTiming$Arrivals" (19 : Nat) "PathTiming$Arrivals" "fromZero" "LPathTiming$Spread;") ∈ Tg := tg_2 (List.mem_of_getElem? (i := 60) rfl) rfl
theorem m301 : (Jvm.Cond.fieldLink "PathTiming$Arrivals" (23 : Nat) "PathTiming$Arrivals" "fromWidth" "LPathTiming$Spread;") ∈ Tg := tg_2 (List.mem_of_getElem? (i := 61) rfl) rfl
theorem m302 : (Jvm.Cond.laysFinal "PathTiming$Arrivals" "PathTiming$Arrivals" "net" "LPathTiming$Net;") ∈ Tg := tg_2 (List.mem_of_getElem? (i := 62) rfl) rfl
theorem m304 : (Jvm.Cond.laysFinal "PathTiming$Arrivals" "PathTiming$Arrivals" "clockWays" "LPathTiming$ClockWays;") ∈ Tg := tg_2 (List.mem_of_getElem? (i := 64) rfl) rfl
theorem m306 : (Jvm.Cond.laysFinal "PathTiming$Arrivals" "PathTiming$Arrivals" "fromZero" "LPathTiming$Spread;") ∈ Tg := tg_2 (List.mem_of_getElem? (i := 66) rfl) rfl
theorem m308 : (Jvm.Cond.laysFinal "PathTiming$Arrivals" "PathTiming$Arrivals" "fromWidth" "LPathTiming$Spread;") ∈ Tg := tg_2 (List.mem_of_getElem? (i := 68) rfl) rfl
theorem m310 : (Jvm.Cond.superclass "PathTiming$Arrivals" "java/lang/Object") ∈ Tg := tg_2 (List.mem_of_getElem? (i := 70) rfl) rfl
theorem m311 : (Jvm.Cond.classLink "PathTiming" (51 : Nat) "PathTiming$Slacks") ∈ Tg := tg_2 (List.mem_of_getElem? (i := 71) rfl) rfl
theorem m312 : (Jvm.Cond.instantiable "PathTiming$Slacks" (8 : Nat)) ∈ Tg := tg_2 (List.mem_of_getElem? (i := 72) rfl) rfl
theorem m313 : (Jvm.Cond.methodLink "PathTiming" (53 : Nat) ({ cls := "PathTiming$Slacks", name := "<init>", desc := "(LPathTiming$Net;LPathTiming$ClockWays;LPathTiming$Spread;LPathTiming$Rooms;)V" } : Jvm.MethodName)) ∈ Tg := tg_2 (List.mem_of_getElem? (i := 73) rfl) rfl
theorem m314 : (Jvm.Cond.instanceMethod ({ cls := "PathTiming$Slacks", name := "<init>", desc := "(LPathTiming$Net;LPathTiming$ClockWays;LPathTiming$Spread;LPathTiming$Rooms;)V" } : Jvm.MethodName)) ∈ Tg := tg_2 (List.mem_of_getElem? (i := 74) rfl) rfl
theorem m315 : (Jvm.Cond.code ({ cls := "PathTiming$Slacks", name := "<init>", desc := "(LPathTiming$Net;LPathTiming$ClockWays;LPathTiming$Spread;LPathTiming$Rooms;)V" } : Jvm.MethodName) prog_8_method_1_code (5 : Nat) (Option.none : Option Jvm.ClassFile.FieldType)) ∈ Tg := tg_2 (List.mem_of_getElem? (i := 75) rfl) rfl
theorem m316 : (Jvm.Cond.methodLink "PathTiming$Slacks" (3 : Nat) ({ cls := "java/lang/Object", name := "<init>", desc := "()V" } : Jvm.MethodName)) ∈ Tg := tg_2 (List.mem_of_getElem? (i := 76) rfl) rfl
theorem m317 : (Jvm.Cond.fieldLink "PathTiming$Slacks" (15 : Nat) "PathTiming$Slacks" "net" "LPathTiming$Net;") ∈ Tg := tg_2 (List.mem_of_getElem? (i := 77) rfl) rfl
theorem m318 : (Jvm.Cond.fieldLink "PathTiming$Slacks" (19 : Nat) "PathTiming$Slacks" "clockWays" "LPathTiming$ClockWays;") ∈ Tg := tg_2 (List.mem_of_getElem? (i := 78) rfl) rfl
theorem m319 : (Jvm.Cond.fieldLink "PathTiming$Slacks" (23 : Nat) "PathTiming$Slacks" "spread" "LPathTiming$Spread;") ∈ Tg := tg_2 (List.mem_of_getElem? (i := 79) rfl) rfl
theorem m320 : (Jvm.Cond.fieldLink "PathTiming$Slacks" (27 : Nat) "PathTiming$Slacks" "rooms" "LPathTiming$Rooms;") ∈ Tg := tg_2 (List.mem_of_getElem? (i := 80) rfl) rfl
theorem m321 : (Jvm.Cond.fieldLink "PathTiming$Slacks" (9 : Nat) "PathTiming$Slacks" "least" "[I") ∈ Tg := tg_2 (List.mem_of_getElem? (i := 81) rfl) rfl
theorem m322 : (Jvm.Cond.fieldLink "PathTiming$Slacks" (38 : Nat) "PathTiming$Slacks" "leastMoving" "I") ∈ Tg := tg_2 (List.mem_of_getElem? (i := 82) rfl) rfl
theorem m323 : (Jvm.Cond.fieldLink "PathTiming$Slacks" (42 : Nat) "PathTiming$Slacks" "leastFixed" "I") ∈ Tg := tg_2 (List.mem_of_getElem? (i := 83) rfl) rfl
theorem m324 : (Jvm.Cond.fieldLink "PathTiming$Slacks" (45 : Nat) "PathTiming$Slacks" "pathCount" "I") ∈ Tg := tg_2 (List.mem_of_getElem? (i := 84) rfl) rfl
theorem m325 : (Jvm.Cond.fieldLink "PathTiming" (191 : Nat) "PathTiming$Slacks" "pathCount" "I") ∈ Tg := tg_2 (List.mem_of_getElem? (i := 85) rfl) rfl
theorem m326 : (Jvm.Cond.laysFinal "PathTiming$Slacks" "PathTiming$Slacks" "net" "LPathTiming$Net;") ∈ Tg := tg_2 (List.mem_of_getElem? (i := 86) rfl) rfl
theorem m328 : (Jvm.Cond.laysFinal "PathTiming$Slacks" "PathTiming$Slacks" "clockWays" "LPathTiming$ClockWays;") ∈ Tg := tg_2 (List.mem_of_getElem? (i := 88) rfl) rfl
theorem m330 : (Jvm.Cond.laysFinal "PathTiming$Slacks" "PathTiming$Slacks" "spread" "LPathTiming$Spread;") ∈ Tg := tg_2 (List.mem_of_getElem? (i := 90) rfl) rfl
theorem m332 : (Jvm.Cond.laysFinal "PathTiming$Slacks" "PathTiming$Slacks" "rooms" "LPathTiming$Rooms;") ∈ Tg := tg_2 (List.mem_of_getElem? (i := 92) rfl) rfl
theorem m334 : (Jvm.Cond.laysFinal "PathTiming$Slacks" "PathTiming$Slacks" "least" "[I") ∈ Tg := tg_2 (List.mem_of_getElem? (i := 94) rfl) rfl
theorem m336 : (Jvm.Cond.lays "PathTiming$Slacks" "PathTiming$Slacks" "leastMoving" "I") ∈ Tg := tg_2 (List.mem_of_getElem? (i := 96) rfl) rfl
theorem m338 : (Jvm.Cond.lays "PathTiming$Slacks" "PathTiming$Slacks" "leastFixed" "I") ∈ Tg := tg_2 (List.mem_of_getElem? (i := 98) rfl) rfl
theorem m340 : (Jvm.Cond.lays "PathTiming$Slacks" "PathTiming$Slacks" "pathCount" "I") ∈ Tg := tg_2 (List.mem_of_getElem? (i := 100) rfl) rfl
theorem m342 : (Jvm.Cond.superclass "PathTiming$Slacks" "java/lang/Object") ∈ Tg := tg_2 (List.mem_of_getElem? (i := 102) rfl) rfl
theorem m343 : (Jvm.Cond.classLink "PathTiming" (60 : Nat) "PathTiming$WorstPaths") ∈ Tg := tg_2 (List.mem_of_getElem? (i := 103) rfl) rfl
theorem m344 : (Jvm.Cond.instantiable "PathTiming$WorstPaths" (12 : Nat)) ∈ Tg := tg_2 (List.mem_of_getElem? (i := 104) rfl) rfl
theorem m345 : (Jvm.Cond.methodLink "PathTiming" (62 : Nat) ({ cls := "PathTiming$WorstPaths", name := "<init>", desc := "(LPathTiming$Net;LPathTiming$ClockWays;LPathTiming$Spread;LPathTiming$Rooms;)V" } : Jvm.MethodName)) ∈ Tg := tg_2 (List.mem_of_getElem? (i := 105) rfl) rfl
theorem m346 : (Jvm.Cond.instanceMethod ({ cls := "PathTiming$WorstPaths", name := "<init>", desc := "(LPathTiming$Net;LPathTiming$ClockWays;LPathTiming$Spread;LPathTiming$Rooms;)V" } : Jvm.MethodName)) ∈ Tg := tg_2 (List.mem_of_getElem? (i := 106) rfl) rfl
theorem m347 : (Jvm.Cond.code ({ cls := "PathTiming$WorstPaths", name := "<init>", desc := "(LPathTiming$Net;LPathTiming$ClockWays;LPathTiming$Spread;LPathTiming$Rooms;)V" } : Jvm.MethodName) prog_10_method_1_code (5 : Nat) (Option.none : Option Jvm.ClassFile.FieldType)) ∈ Tg := tg_2 (List.mem_of_getElem? (i := 107) rfl) rfl
theorem m348 : (Jvm.Cond.methodLink "PathTiming$WorstPaths" (3 : Nat) ({ cls := "java/lang/Object", name := "<init>", desc := "()V" } : Jvm.MethodName)) ∈ Tg := tg_2 (List.mem_of_getElem? (i := 108) rfl) rfl
theorem m349 : (Jvm.Cond.classLink "PathTiming$WorstPaths" (9 : Nat) "PathTiming$PathList") ∈ Tg := tg_2 (List.mem_of_getElem? (i := 109) rfl) rfl
theorem m350 : (Jvm.Cond.instantiable "PathTiming$PathList" (5 : Nat)) ∈ Tg := tg_2 (List.mem_of_getElem? (i := 110) rfl) rfl
theorem m352 : (Jvm.Cond.instanceMethod ({ cls := "PathTiming$PathList", name := "<init>", desc := "()V" } : Jvm.MethodName)) ∈ Tg := tg_2 (List.mem_of_getElem? (i := 112) rfl) rfl
theorem m353 : (Jvm.Cond.code ({ cls := "PathTiming$PathList", name := "<init>", desc := "()V" } : Jvm.MethodName) prog_6_method_1_code (1 : Nat) (Option.none : Option Jvm.ClassFile.FieldType)) ∈ Tg := tg_2 (List.mem_of_getElem? (i := 113) rfl) rfl
theorem m354 : (Jvm.Cond.methodLink "PathTiming$PathList" (3 : Nat) ({ cls := "java/lang/Object", name := "<init>", desc := "()V" } : Jvm.MethodName)) ∈ Tg := tg_2 (List.mem_of_getElem? (i := 114) rfl) rfl
theorem m355 : (Jvm.Cond.fieldLink "PathTiming$PathList" (24 : Nat) "PathTiming$PathList" "size" "I") ∈ Tg := tg_2 (List.mem_of_getElem? (i := 115) rfl) rfl
theorem m356 : (Jvm.Cond.fieldLink "PathTiming$WorstPaths" (48 : Nat) "PathTiming$PathList" "size" "I") ∈ Tg := tg_2 (List.mem_of_getElem? (i := 116) rfl) rfl
theorem m357 : (Jvm.Cond.fieldLink "PathTiming$PathList" (9 : Nat) "PathTiming$PathList" "slotOf" "[I") ∈ Tg := tg_2 (List.mem_of_getElem? (i := 117) rfl) rfl
theorem m358 : (Jvm.Cond.fieldLink "PathTiming$PathList" (15 : Nat) "PathTiming$PathList" "slacks" "[I") ∈ Tg := tg_2 (List.mem_of_getElem? (i := 118) rfl) rfl
theorem m359 : (Jvm.Cond.fieldLink "PathTiming$PathList" (18 : Nat) "PathTiming$PathList" "lengths" "[I") ∈ Tg := tg_2 (List.mem_of_getElem? (i := 119) rfl) rfl
theorem m360 : (Jvm.Cond.fieldLink "PathTiming$PathList" (21 : Nat) "PathTiming$PathList" "rows" "[I") ∈ Tg := tg_2 (List.mem_of_getElem? (i := 120) rfl) rfl
theorem m361 : (Jvm.Cond.lays "PathTiming$PathList" "PathTiming$PathList" "size" "I") ∈ Tg := tg_2 (List.mem_of_getElem? (i := 121) rfl) rfl
theorem m363 : (Jvm.Cond.laysFinal "PathTiming$PathList" "PathTiming$PathList" "slotOf" "[I") ∈ Tg := tg_2 (List.mem_of_getElem? (i := 123) rfl) rfl
theorem m365 : (Jvm.Cond.laysFinal "PathTiming$PathList" "PathTiming$PathList" "slacks" "[I") ∈ Tg := tg_2 (List.mem_of_getElem? (i := 125) rfl) rfl
theorem m367 : (Jvm.Cond.laysFinal "PathTiming$PathList" "PathTiming$PathList" "lengths" "[I") ∈ Tg := tg_2 (List.mem_of_getElem? (i := 127) rfl) rfl
theorem m369 : (Jvm.Cond.laysFinal "PathTiming$PathList" "PathTiming$PathList" "rows" "[I") ∈ Tg := tg_2 (List.mem_of_getElem? (i := 129) rfl) rfl
theorem m371 : (Jvm.Cond.superclass "PathTiming$PathList" "java/lang/Object") ∈ Tg := tg_2 (List.mem_of_getElem? (i := 131) rfl) rfl
theorem m372 : (Jvm.Cond.fieldLink "PathTiming$WorstPaths" (28 : Nat) "PathTiming$WorstPaths" "net" "LPathTiming$Net;") ∈ Tg := tg_2 (List.mem_of_getElem? (i := 132) rfl) rfl
theorem m373 : (Jvm.Cond.fieldLink "PathTiming$WorstPaths" (32 : Nat) "PathTiming$WorstPaths" "clockWays" "LPathTiming$ClockWays;") ∈ Tg := tg_2 (List.mem_of_getElem? (i := 133) rfl) rfl
theorem m374 : (Jvm.Cond.fieldLink "PathTiming$WorstPaths" (36 : Nat) "PathTiming$WorstPaths" "spread" "LPathTiming$Spread;") ∈ Tg := tg_2 (List.mem_of_getElem? (i := 134) rfl) rfl
theorem m375 : (Jvm.Cond.fieldLink "PathTiming$WorstPaths" (40 : Nat) "PathTiming$WorstPaths" "rooms" "LPathTiming$Rooms;") ∈ Tg := tg_2 (List.mem_of_getElem? (i := 135) rfl) rfl
theorem m376 : (Jvm.Cond.fieldLink "PathTiming$WorstPaths" (12 : Nat) "PathTiming$WorstPaths" "bySetup" "LPathTiming$PathList;") ∈ Tg := tg_2 (List.mem_of_getElem? (i := 136) rfl) rfl
theorem m377 : (Jvm.Cond.fieldLink "PathTiming$WorstPaths" (18 : Nat) "PathTiming$WorstPaths" "byHold" "LPathTiming$PathList;") ∈ Tg := tg_2 (List.mem_of_getElem? (i := 137) rfl) rfl
theorem m378 : (Jvm.Cond.fieldLink "PathTiming$WorstPaths" (21 : Nat) "PathTiming$WorstPaths" "trail" "[I") ∈ Tg := tg_2 (List.mem_of_getElem? (i := 138) rfl) rfl
theorem m379 : (Jvm.Cond.fieldLink "PathTiming$WorstPaths" (25 : Nat) "PathTiming$WorstPaths" "row" "[I") ∈ Tg := tg_2 (List.mem_of_getElem? (i := 139) rfl) rfl
theorem m380 : (Jvm.Cond.fieldLink "PathTiming$WorstPaths" (61 : Nat) "PathTiming$WorstPaths" "start" "I") ∈ Tg := tg_2 (List.mem_of_getElem? (i := 140) rfl) rfl
theorem m381 : (Jvm.Cond.fieldLink "PathTiming$WorstPaths" (86 : Nat) "PathTiming$WorstPaths" "end" "I") ∈ Tg := tg_2 (List.mem_of_getElem? (i := 141) rfl) rfl
theorem m382 : (Jvm.Cond.fieldLink "PathTiming$WorstPaths" (95 : Nat) "PathTiming$WorstPaths" "endChange" "I") ∈ Tg := tg_2 (List.mem_of_getElem? (i := 142) rfl) rfl
theorem m383 : (Jvm.Cond.fieldLink "PathTiming$WorstPaths" (44 : Nat) "PathTiming$WorstPaths" "isCollected" "Z") ∈ Tg := tg_2 (List.mem_of_getElem? (i := 143) rfl) rfl
theorem m384 : (Jvm.Cond.laysFinal "PathTiming$WorstPaths" "PathTiming$WorstPaths" "net" "LPathTiming$Net;") ∈ Tg := tg_2 (List.mem_of_getElem? (i := 144) rfl) rfl
theorem m386 : (Jvm.Cond.laysFinal "PathTiming$WorstPaths" "PathTiming$WorstPaths" "clockWays" "LPathTiming$ClockWays;") ∈ Tg := tg_2 (List.mem_of_getElem? (i := 146) rfl) rfl
theorem m388 : (Jvm.Cond.laysFinal "PathTiming$WorstPaths" "PathTiming$WorstPaths" "spread" "LPathTiming$Spread;") ∈ Tg := tg_2 (List.mem_of_getElem? (i := 148) rfl) rfl
theorem m390 : (Jvm.Cond.laysFinal "PathTiming$WorstPaths" "PathTiming$WorstPaths" "rooms" "LPathTiming$Rooms;") ∈ Tg := tg_2 (List.mem_of_getElem? (i := 150) rfl) rfl
theorem m392 : (Jvm.Cond.laysFinal "PathTiming$WorstPaths" "PathTiming$WorstPaths" "bySetup" "LPathTiming$PathList;") ∈ Tg := tg_2 (List.mem_of_getElem? (i := 152) rfl) rfl
theorem m394 : (Jvm.Cond.laysFinal "PathTiming$WorstPaths" "PathTiming$WorstPaths" "byHold" "LPathTiming$PathList;") ∈ Tg := tg_2 (List.mem_of_getElem? (i := 154) rfl) rfl
theorem m396 : (Jvm.Cond.laysFinal "PathTiming$WorstPaths" "PathTiming$WorstPaths" "trail" "[I") ∈ Tg := tg_2 (List.mem_of_getElem? (i := 156) rfl) rfl
theorem m398 : (Jvm.Cond.laysFinal "PathTiming$WorstPaths" "PathTiming$WorstPaths" "row" "[I") ∈ Tg := tg_2 (List.mem_of_getElem? (i := 158) rfl) rfl
theorem m400 : (Jvm.Cond.lays "PathTiming$WorstPaths" "PathTiming$WorstPaths" "start" "I") ∈ Tg := tg_2 (List.mem_of_getElem? (i := 160) rfl) rfl
theorem m402 : (Jvm.Cond.lays "PathTiming$WorstPaths" "PathTiming$WorstPaths" "end" "I") ∈ Tg := tg_2 (List.mem_of_getElem? (i := 162) rfl) rfl
theorem m404 : (Jvm.Cond.lays "PathTiming$WorstPaths" "PathTiming$WorstPaths" "endChange" "I") ∈ Tg := tg_2 (List.mem_of_getElem? (i := 164) rfl) rfl
theorem m406 : (Jvm.Cond.lays "PathTiming$WorstPaths" "PathTiming$WorstPaths" "isCollected" "Z") ∈ Tg := tg_2 (List.mem_of_getElem? (i := 166) rfl) rfl
theorem m408 : (Jvm.Cond.superclass "PathTiming$WorstPaths" "java/lang/Object") ∈ Tg := tg_2 (List.mem_of_getElem? (i := 168) rfl) rfl
theorem m409 : (Jvm.Cond.fieldLink "PathTiming" (12 : Nat) "PathTiming" "net" "LPathTiming$Net;") ∈ Tg := tg_2 (List.mem_of_getElem? (i := 169) rfl) rfl
theorem m410 : (Jvm.Cond.fieldLink "PathTiming" (21 : Nat) "PathTiming" "order" "LPathTiming$GateOrder;") ∈ Tg := tg_2 (List.mem_of_getElem? (i := 170) rfl) rfl
theorem m411 : (Jvm.Cond.fieldLink "PathTiming" (30 : Nat) "PathTiming" "clockWays" "LPathTiming$ClockWays;") ∈ Tg := tg_2 (List.mem_of_getElem? (i := 171) rfl) rfl
theorem m412 : (Jvm.Cond.fieldLink "PathTiming" (47 : Nat) "PathTiming" "arrivals" "LPathTiming$Arrivals;") ∈ Tg := tg_2 (List.mem_of_getElem? (i := 172) rfl) rfl
theorem m413 : (Jvm.Cond.fieldLink "PathTiming" (56 : Nat) "PathTiming" "slacks" "LPathTiming$Slacks;") ∈ Tg := tg_2 (List.mem_of_getElem? (i := 173) rfl) rfl
theorem m414 : (Jvm.Cond.fieldLink "PathTiming" (63 : Nat) "PathTiming" "worstPaths" "LPathTiming$WorstPaths;") ∈ Tg := tg_2 (List.mem_of_getElem? (i := 174) rfl) rfl
theorem m415 : (Jvm.Cond.fieldLink "PathTiming" (82 : Nat) "PathTiming" "analysed" "Z") ∈ Tg := tg_2 (List.mem_of_getElem? (i := 175) rfl) rfl
theorem m416 : (Jvm.Cond.laysFinal "PathTiming" "PathTiming" "net" "LPathTiming$Net;") ∈ Tg := tg_2 (List.mem_of_getElem? (i := 176) rfl) rfl
theorem m418 : (Jvm.Cond.laysFinal "PathTiming" "PathTiming" "order" "LPathTiming$GateOrder;") ∈ Tg := tg_2 (List.mem_of_getElem? (i := 178) rfl) rfl
theorem m420 : (Jvm.Cond.laysFinal "PathTiming" "PathTiming" "clockWays" "LPathTiming$ClockWays;") ∈ Tg := tg_2 (List.mem_of_getElem? (i := 180) rfl) rfl
theorem m422 : (Jvm.Cond.laysFinal "PathTiming" "PathTiming" "arrivals" "LPathTiming$Arrivals;") ∈ Tg := tg_2 (List.mem_of_getElem? (i := 182) rfl) rfl
theorem m424 : (Jvm.Cond.laysFinal "PathTiming" "PathTiming" "slacks" "LPathTiming$Slacks;") ∈ Tg := tg_2 (List.mem_of_getElem? (i := 184) rfl) rfl
theorem m426 : (Jvm.Cond.laysFinal "PathTiming" "PathTiming" "worstPaths" "LPathTiming$WorstPaths;") ∈ Tg := tg_2 (List.mem_of_getElem? (i := 186) rfl) rfl
theorem m428 : (Jvm.Cond.lays "PathTiming" "PathTiming" "analysed" "Z") ∈ Tg := tg_2 (List.mem_of_getElem? (i := 188) rfl) rfl
theorem m430 : (Jvm.Cond.superclass "PathTiming" "java/lang/Object") ∈ Tg := tg_2 (List.mem_of_getElem? (i := 190) rfl) rfl
theorem m431 : (Jvm.Cond.methodLink "PathTimingLaw" (94 : Nat) ({ cls := "PathTiming", name := "register", desc := "()I" } : Jvm.MethodName)) ∈ Tg := tg_2 (List.mem_of_getElem? (i := 191) rfl) rfl
theorem m432 : (Jvm.Cond.instanceMethod ({ cls := "PathTiming", name := "register", desc := "()I" } : Jvm.MethodName)) ∈ Tg := tg_2 (List.mem_of_getElem? (i := 192) rfl) rfl
theorem m433 : (Jvm.Cond.selects "PathTiming" ({ cls := "PathTiming", name := "register", desc := "()I" } : Jvm.MethodName) ({ cls := "PathTiming", name := "register", desc := "()I" } : Jvm.MethodName)) ∈ Tg := tg_2 (List.mem_of_getElem? (i := 193) rfl) rfl
theorem m434 : (Jvm.Cond.code ({ cls := "PathTiming", name := "register", desc := "()I" } : Jvm.MethodName) prog_1_method_5_code (1 : Nat) (Option.some Jvm.ClassFile.FieldType.int)) ∈ Tg := tg_2 (List.mem_of_getElem? (i := 194) rfl) rfl
theorem m435 : (Jvm.Cond.methodLink "PathTiming" (90 : Nat) ({ cls := "PathTiming", name := "addNode", desc := "(II)I" } : Jvm.MethodName)) ∈ Tg := tg_2 (List.mem_of_getElem? (i := 195) rfl) rfl
theorem m437 : (Jvm.Cond.instanceMethod ({ cls := "PathTiming", name := "addNode", desc := "(II)I" } : Jvm.MethodName)) ∈ Tg := tg_2 (List.mem_of_getElem? (i := 197) rfl) rfl
theorem m438 : (Jvm.Cond.code ({ cls := "PathTiming", name := "addNode", desc := "(II)I" } : Jvm.MethodName) prog_1_method_22_code (3 : Nat) (Option.some Jvm.ClassFile.FieldType.int)) ∈ Tg := tg_2 (List.mem_of_getElem? (i := 198) rfl) rfl
theorem m439 : (Jvm.Cond.constant "PathTiming" (94 : Nat) (-2147483648 : Int32)) ∈ Tg := tg_2 (List.mem_of_getElem? (i := 199) rfl) rfl
theorem m440 : (Jvm.Cond.methodLink "PathTiming" (216 : Nat) ({ cls := "PathTiming$Net", name := "add", desc := "(II)I" } : Jvm.MethodName)) ∈ Tg := tg_2 (List.mem_of_getElem? (i := 200) rfl) rfl
theorem m441 : (Jvm.Cond.instanceMethod ({ cls := "PathTiming$Net", name := "add", desc := "(II)I" } : Jvm.MethodName)) ∈ Tg := tg_2 (List.mem_of_getElem? (i := 201) rfl) rfl
theorem m442 : (Jvm.Cond.selects "PathTiming$Net" ({ cls := "PathTiming$Net", name := "add", desc := "(II)I" } : Jvm.MethodName) ({ cls := "PathTiming$Net", name := "add", desc := "(II)I" } : Jvm.MethodName)) ∈ Tg := tg_2 (List.mem_of_getElem? (i := 202) rfl) rfl
theorem m443 : (Jvm.Cond.code ({ cls := "PathTiming$Net", name := "add", desc := "(II)I" } : Jvm.MethodName) prog_5_method_2_code (3 : Nat) (Option.some Jvm.ClassFile.FieldType.int)) ∈ Tg := tg_2 (List.mem_of_getElem? (i := 203) rfl) rfl
theorem m444 : (Jvm.Cond.methodLink "PathTimingLaw" (98 : Nat) ({ cls := "PathTiming", name := "output", desc := "()I" } : Jvm.MethodName)) ∈ Tg := tg_2 (List.mem_of_getElem? (i := 204) rfl) rfl
theorem m445 : (Jvm.Cond.instanceMethod ({ cls := "PathTiming", name := "output", desc := "()I" } : Jvm.MethodName)) ∈ Tg := tg_2 (List.mem_of_getElem? (i := 205) rfl) rfl
theorem m446 : (Jvm.Cond.selects "PathTiming" ({ cls := "PathTiming", name := "output", desc := "()I" } : Jvm.MethodName) ({ cls := "PathTiming", name := "output", desc := "()I" } : Jvm.MethodName)) ∈ Tg := tg_2 (List.mem_of_getElem? (i := 206) rfl) rfl
theorem m447 : (Jvm.Cond.code ({ cls := "PathTiming", name := "output", desc := "()I" } : Jvm.MethodName) prog_1_method_6_code (1 : Nat) (Option.some Jvm.ClassFile.FieldType.int)) ∈ Tg := tg_2 (List.mem_of_getElem? (i := 207) rfl) rfl
theorem m448 : (Jvm.Cond.methodLink "PathTimingLaw" (117 : Nat) ({ cls := "PathTiming", name := "analyse", desc := "()I" } : Jvm.MethodName)) ∈ Tg := tg_2 (List.mem_of_getElem? (i := 208) rfl) rfl
theorem m449 : (Jvm.Cond.instanceMethod ({ cls := "PathTiming", name := "analyse", desc := "()I" } : Jvm.MethodName)) ∈ Tg := tg_2 (List.mem_of_getElem? (i := 209) rfl) rfl
theorem m450 : (Jvm.Cond.selects "PathTiming" ({ cls := "PathTiming", name := "analyse", desc := "()I" } : Jvm.MethodName) ({ cls := "PathTiming", name := "analyse", desc := "()I" } : Jvm.MethodName)) ∈ Tg := tg_2 (List.mem_of_getElem? (i := 210) rfl) rfl
theorem m451 : (Jvm.Cond.code ({ cls := "PathTiming", name := "analyse", desc := "()I" } : Jvm.MethodName) prog_1_method_11_code (1 : Nat) (Option.some Jvm.ClassFile.FieldType.int)) ∈ Tg := tg_2 (List.mem_of_getElem? (i := 211) rfl) rfl
theorem m452 : (Jvm.Cond.methodLink "PathTiming" (140 : Nat) ({ cls := "PathTiming$GateOrder", name := "leastOnCycle", desc := "()I" } : Jvm.MethodName)) ∈ Tg := tg_2 (List.mem_of_getElem? (i := 212) rfl) rfl
theorem m453 : (Jvm.Cond.instanceMethod ({ cls := "PathTiming$GateOrder", name := "leastOnCycle", desc := "()I" } : Jvm.MethodName)) ∈ Tg := tg_2 (List.mem_of_getElem? (i := 213) rfl) rfl
theorem m454 : (Jvm.Cond.selects "PathTiming$GateOrder" ({ cls := "PathTiming$GateOrder", name := "leastOnCycle", desc := "()I" } : Jvm.MethodName) ({ cls := "PathTiming$GateOrder", name := "leastOnCycle", desc := "()I" } : Jvm.MethodName)) ∈ Tg := tg_2 (List.mem_of_getElem? (i := 214) rfl) rfl
theorem m455 : (Jvm.Cond.code ({ cls := "PathTiming$GateOrder", name := "leastOnCycle", desc := "()I" } : Jvm.MethodName) prog_4_method_2_code (2 : Nat) (Option.some Jvm.ClassFile.FieldType.int)) ∈ Tg := tg_2 (List.mem_of_getElem? (i := 215) rfl) rfl
theorem m456 : (Jvm.Cond.methodLink "PathTiming$GateOrder" (23 : Nat) ({ cls := "PathTiming$GateOrder", name := "findLeading", desc := "()V" } : Jvm.MethodName)) ∈ Tg := tg_2 (List.mem_of_getElem? (i := 216) rfl) rfl
theorem m458 : (Jvm.Cond.instanceMethod ({ cls := "PathTiming$GateOrder", name := "findLeading", desc := "()V" } : Jvm.MethodName)) ∈ Tg := tg_2 (List.mem_of_getElem? (i := 218) rfl) rfl
theorem m459 : (Jvm.Cond.code ({ cls := "PathTiming$GateOrder", name := "findLeading", desc := "()V" } : Jvm.MethodName) prog_4_method_4_code (3 : Nat) (Option.none : Option Jvm.ClassFile.FieldType)) ∈ Tg := tg_2 (List.mem_of_getElem? (i := 219) rfl) rfl
theorem m460 : (Jvm.Cond.methodLink "PathTiming$GateOrder" (49 : Nat) ({ cls := "PathTiming$GateOrder", name := "gatesWiredTo", desc := "(I)J" } : Jvm.MethodName)) ∈ Tg := tg_2 (List.mem_of_getElem? (i := 220) rfl) rfl
theorem m462 : (Jvm.Cond.instanceMethod ({ cls := "PathTiming$GateOrder", name := "gatesWiredTo", desc := "(I)J" } : Jvm.MethodName)) ∈ Tg := tg_2 (List.mem_of_getElem? (i := 222) rfl) rfl
theorem m463 : (Jvm.Cond.code ({ cls := "PathTiming$GateOrder", name := "gatesWiredTo", desc := "(I)J" } : Jvm.MethodName) prog_4_method_5_code (6 : Nat) (Option.some Jvm.ClassFile.FieldType.long)) ∈ Tg := tg_2 (List.mem_of_getElem? (i := 223) rfl) rfl
theorem m464 : (Jvm.Cond.methodLink "PathTiming$GateOrder" (32 : Nat) ({ cls := "PathTiming$GateOrder", name := "has", desc := "(JI)Z" } : Jvm.MethodName)) ∈ Tg := tg_2 (List.mem_of_getElem? (i := 224) rfl) rfl
theorem m465 : (Jvm.Cond.static ({ cls := "PathTiming$GateOrder", name := "has", desc := "(JI)Z" } : Jvm.MethodName)) ∈ Tg := tg_2 (List.mem_of_getElem? (i := 225) rfl) rfl
theorem m466 : (Jvm.Cond.code ({ cls := "PathTiming$GateOrder", name := "has", desc := "(JI)Z" } : Jvm.MethodName) prog_4_method_6_code (3 : Nat) (Option.some Jvm.ClassFile.FieldType.boolean)) ∈ Tg := tg_2 (List.mem_of_getElem? (i := 226) rfl) rfl
theorem m467 : (Jvm.Cond.constant "PathTiming$GateOrder" (36 : Nat) (-2147483648 : Int32)) ∈ Tg := tg_2 (List.mem_of_getElem? (i := 227) rfl) rfl
theorem m468 : (Jvm.Cond.methodLink "PathTiming" (144 : Nat) ({ cls := "PathTiming$GateOrder", name := "sort", desc := "()V" } : Jvm.MethodName)) ∈ Tg := tg_2 (List.mem_of_getElem? (i := 228) rfl) rfl
theorem m469 : (Jvm.Cond.instanceMethod ({ cls := "PathTiming$GateOrder", name := "sort", desc := "()V" } : Jvm.MethodName)) ∈ Tg := tg_2 (List.mem_of_getElem? (i := 229) rfl) rfl
theorem m470 : (Jvm.Cond.selects "PathTiming$GateOrder" ({ cls := "PathTiming$GateOrder", name := "sort", desc := "()V" } : Jvm.MethodName) ({ cls := "PathTiming$GateOrder", name := "sort", desc := "()V" } : Jvm.MethodName)) ∈ Tg := tg_2 (List.mem_of_getElem? (i := 230) rfl) rfl
theorem m471 : (Jvm.Cond.code ({ cls := "PathTiming$GateOrder", name := "sort", desc := "()V" } : Jvm.MethodName) prog_4_method_3_code (3 : Nat) (Option.none : Option Jvm.ClassFile.FieldType)) ∈ Tg := tg_2 (List.mem_of_getElem? (i := 231) rfl) rfl
theorem m472 : (Jvm.Cond.methodLink "PathTiming$GateOrder" (43 : Nat) ({ cls := "java/lang/Long", name := "bitCount", desc := "(J)I" } : Jvm.MethodName)) ∈ Tg := tg_2 (List.mem_of_getElem? (i := 232) rfl) rfl
theorem m473 : (Jvm.Cond.static ({ cls := "java/lang/Long", name := "bitCount", desc := "(J)I" } : Jvm.MethodName)) ∈ Tg := tg_2 (List.mem_of_getElem? (i := 233) rfl) rfl
theorem m474 : (Jvm.Cond.code ({ cls := "java/lang/Long", name := "bitCount", desc := "(J)I" } : Jvm.MethodName) prog_17_method_50_code (2 : Nat) (Option.some Jvm.ClassFile.FieldType.int)) ∈ Tg := tg_2 (List.mem_of_getElem? (i := 234) rfl) rfl
theorem m475 : (Jvm.Cond.constantLong "java/lang/Long" (314 : Nat) (6148914691236517205 : Int64)) ∈ Tg := tg_2 (List.mem_of_getElem? (i := 235) rfl) rfl
theorem m476 : (Jvm.Cond.constantLong "java/lang/Long" (316 : Nat) (3689348814741910323 : Int64)) ∈ Tg := tg_2 (List.mem_of_getElem? (i := 236) rfl) rfl
theorem m477 : (Jvm.Cond.constantLong "java/lang/Long" (318 : Nat) (1085102592571150095 : Int64)) ∈ Tg := tg_2 (List.mem_of_getElem? (i := 237) rfl) rfl
theorem m478 : (Jvm.Cond.methodLink "PathTiming" (147 : Nat) ({ cls := "PathTiming$ClockWays", name := "find", desc := "()Z" } : Jvm.MethodName)) ∈ Tg := tg_2 (List.mem_of_getElem? (i := 238) rfl) rfl
theorem m479 : (Jvm.Cond.instanceMethod ({ cls := "PathTiming$ClockWays", name := "find", desc := "()Z" } : Jvm.MethodName)) ∈ Tg := tg_2 (List.mem_of_getElem? (i := 239) rfl) rfl
theorem m480 : (Jvm.Cond.selects "PathTiming$ClockWays" ({ cls := "PathTiming$ClockWays", name := "find", desc := "()Z" } : Jvm.MethodName) ({ cls := "PathTiming$ClockWays", name := "find", desc := "()Z" } : Jvm.MethodName)) ∈ Tg := tg_3 (List.mem_of_getElem? (i := 0) rfl) rfl
theorem m481 : (Jvm.Cond.code ({ cls := "PathTiming$ClockWays", name := "find", desc := "()Z" } : Jvm.MethodName) prog_3_method_2_code (2 : Nat) (Option.some Jvm.ClassFile.FieldType.boolean)) ∈ Tg := tg_3 (List.mem_of_getElem? (i := 1) rfl) rfl
theorem m482 : (Jvm.Cond.methodLink "PathTiming$ClockWays" (69 : Nat) ({ cls := "PathTiming$ClockWays", name := "isTangled", desc := "()Z" } : Jvm.MethodName)) ∈ Tg := tg_3 (List.mem_of_getElem? (i := 2) rfl) rfl
theorem m484 : (Jvm.Cond.instanceMethod ({ cls := "PathTiming$ClockWays", name := "isTangled", desc := "()Z" } : Jvm.MethodName)) ∈ Tg := tg_3 (List.mem_of_getElem? (i := 4) rfl) rfl
theorem m485 : (Jvm.Cond.code ({ cls := "PathTiming$ClockWays", name := "isTangled", desc := "()Z" } : Jvm.MethodName) prog_3_method_7_code (3 : Nat) (Option.some Jvm.ClassFile.FieldType.boolean)) ∈ Tg := tg_3 (List.mem_of_getElem? (i := 5) rfl) rfl
theorem m486 : (Jvm.Cond.methodLink "PathTiming$ClockWays" (116 : Nat) ({ cls := "PathTiming$Spread", name := "clear", desc := "()V" } : Jvm.MethodName)) ∈ Tg := tg_3 (List.mem_of_getElem? (i := 6) rfl) rfl
theorem m487 : (Jvm.Cond.instanceMethod ({ cls := "PathTiming$Spread", name := "clear", desc := "()V" } : Jvm.MethodName)) ∈ Tg := tg_3 (List.mem_of_getElem? (i := 7) rfl) rfl
theorem m488 : (Jvm.Cond.selects "PathTiming$Spread" ({ cls := "PathTiming$Spread", name := "clear", desc := "()V" } : Jvm.MethodName) ({ cls := "PathTiming$Spread", name := "clear", desc := "()V" } : Jvm.MethodName)) ∈ Tg := tg_3 (List.mem_of_getElem? (i := 8) rfl) rfl
theorem m489 : (Jvm.Cond.code ({ cls := "PathTiming$Spread", name := "clear", desc := "()V" } : Jvm.MethodName) prog_9_method_2_code (1 : Nat) (Option.none : Option Jvm.ClassFile.FieldType)) ∈ Tg := tg_3 (List.mem_of_getElem? (i := 9) rfl) rfl
theorem m490 : (Jvm.Cond.methodLink "PathTiming$Spread" (29 : Nat) ({ cls := "java/util/Arrays", name := "fill", desc := "([II)V" } : Jvm.MethodName)) ∈ Tg := tg_3 (List.mem_of_getElem? (i := 10) rfl) rfl
theorem m491 : (Jvm.Cond.methodLink "PathTiming$ClockWays" (119 : Nat) ({ cls := "PathTiming$Spread", name := "join", desc := "(IIII)V" } : Jvm.MethodName)) ∈ Tg := tg_3 (List.mem_of_getElem? (i := 11) rfl) rfl
theorem m492 : (Jvm.Cond.instanceMethod ({ cls := "PathTiming$Spread", name := "join", desc := "(IIII)V" } : Jvm.MethodName)) ∈ Tg := tg_3 (List.mem_of_getElem? (i := 12) rfl) rfl
theorem m493 : (Jvm.Cond.selects "PathTiming$Spread" ({ cls := "PathTiming$Spread", name := "join", desc := "(IIII)V" } : Jvm.MethodName) ({ cls := "PathTiming$Spread", name := "join", desc := "(IIII)V" } : Jvm.MethodName)) ∈ Tg := tg_3 (List.mem_of_getElem? (i := 13) rfl) rfl
theorem m494 : (Jvm.Cond.code ({ cls := "PathTiming$Spread", name := "join", desc := "(IIII)V" } : Jvm.MethodName) prog_9_method_4_code (6 : Nat) (Option.none : Option Jvm.ClassFile.FieldType)) ∈ Tg := tg_3 (List.mem_of_getElem? (i := 14) rfl) rfl
theorem m495 : (Jvm.Cond.methodLink "PathTiming$Spread" (35 : Nat) ({ cls := "java/lang/Math", name := "min", desc := "(II)I" } : Jvm.MethodName)) ∈ Tg := tg_3 (List.mem_of_getElem? (i := 15) rfl) rfl
theorem m496 : (Jvm.Cond.static ({ cls := "java/lang/Math", name := "min", desc := "(II)I" } : Jvm.MethodName)) ∈ Tg := tg_3 (List.mem_of_getElem? (i := 16) rfl) rfl
theorem m497 : (Jvm.Cond.code ({ cls := "java/lang/Math", name := "min", desc := "(II)I" } : Jvm.MethodName) prog_18_method_69_code (2 : Nat) (Option.some Jvm.ClassFile.FieldType.int)) ∈ Tg := tg_3 (List.mem_of_getElem? (i := 17) rfl) rfl
theorem m498 : (Jvm.Cond.methodLink "PathTiming$ClockWays" (123 : Nat) ({ cls := "PathTiming$Spread", name := "spread", desc := "()V" } : Jvm.MethodName)) ∈ Tg := tg_3 (List.mem_of_getElem? (i := 18) rfl) rfl
theorem m499 : (Jvm.Cond.instanceMethod ({ cls := "PathTiming$Spread", name := "spread", desc := "()V" } : Jvm.MethodName)) ∈ Tg := tg_3 (List.mem_of_getElem? (i := 19) rfl) rfl
theorem m500 : (Jvm.Cond.selects "PathTiming$Spread" ({ cls := "PathTiming$Spread", name := "spread", desc := "()V" } : Jvm.MethodName) ({ cls := "PathTiming$Spread", name := "spread", desc := "()V" } : Jvm.MethodName)) ∈ Tg := tg_3 (List.mem_of_getElem? (i := 20) rfl) rfl
theorem m501 : (Jvm.Cond.code ({ cls := "PathTiming$Spread", name := "spread", desc := "()V" } : Jvm.MethodName) prog_9_method_5_code (4 : Nat) (Option.none : Option Jvm.ClassFile.FieldType)) ∈ Tg := tg_3 (List.mem_of_getElem? (i := 21) rfl) rfl
theorem m502 : (Jvm.Cond.methodLink "PathTiming$Spread" (54 : Nat) ({ cls := "PathTiming$Spread", name := "spreadBy", desc := "(II)V" } : Jvm.MethodName)) ∈ Tg := tg_3 (List.mem_of_getElem? (i := 22) rfl) rfl
theorem m504 : (Jvm.Cond.instanceMethod ({ cls := "PathTiming$Spread", name := "spreadBy", desc := "(II)V" } : Jvm.MethodName)) ∈ Tg := tg_3 (List.mem_of_getElem? (i := 24) rfl) rfl
theorem m505 : (Jvm.Cond.code ({ cls := "PathTiming$Spread", name := "spreadBy", desc := "(II)V" } : Jvm.MethodName) prog_9_method_7_code (7 : Nat) (Option.none : Option Jvm.ClassFile.FieldType)) ∈ Tg := tg_3 (List.mem_of_getElem? (i := 25) rfl) rfl
theorem m506 : (Jvm.Cond.methodLink "PathTiming$Spread" (77 : Nat) ({ cls := "PathTiming$Net", name := "lets", desc := "(III)Z" } : Jvm.MethodName)) ∈ Tg := tg_3 (List.mem_of_getElem? (i := 26) rfl) rfl
theorem m507 : (Jvm.Cond.instanceMethod ({ cls := "PathTiming$Net", name := "lets", desc := "(III)Z" } : Jvm.MethodName)) ∈ Tg := tg_3 (List.mem_of_getElem? (i := 27) rfl) rfl
theorem m508 : (Jvm.Cond.selects "PathTiming$Net" ({ cls := "PathTiming$Net", name := "lets", desc := "(III)Z" } : Jvm.MethodName) ({ cls := "PathTiming$Net", name := "lets", desc := "(III)Z" } : Jvm.MethodName)) ∈ Tg := tg_3 (List.mem_of_getElem? (i := 28) rfl) rfl
theorem m509 : (Jvm.Cond.code ({ cls := "PathTiming$Net", name := "lets", desc := "(III)Z" } : Jvm.MethodName) prog_5_method_12_code (4 : Nat) (Option.some Jvm.ClassFile.FieldType.boolean)) ∈ Tg := tg_3 (List.mem_of_getElem? (i := 29) rfl) rfl
theorem m510 : (Jvm.Cond.methodLink "PathTiming$Spread" (81 : Nat) ({ cls := "PathTiming$Net", name := "stepEarly", desc := "(II)I" } : Jvm.MethodName)) ∈ Tg := tg_3 (List.mem_of_getElem? (i := 30) rfl) rfl
theorem m511 : (Jvm.Cond.instanceMethod ({ cls := "PathTiming$Net", name := "stepEarly", desc := "(II)I" } : Jvm.MethodName)) ∈ Tg := tg_3 (List.mem_of_getElem? (i := 31) rfl) rfl
theorem m512 : (Jvm.Cond.selects "PathTiming$Net" ({ cls := "PathTiming$Net", name := "stepEarly", desc := "(II)I" } : Jvm.MethodName) ({ cls := "PathTiming$Net", name := "stepEarly", desc := "(II)I" } : Jvm.MethodName)) ∈ Tg := tg_3 (List.mem_of_getElem? (i := 32) rfl) rfl
theorem m513 : (Jvm.Cond.code ({ cls := "PathTiming$Net", name := "stepEarly", desc := "(II)I" } : Jvm.MethodName) prog_5_method_13_code (3 : Nat) (Option.some Jvm.ClassFile.FieldType.int)) ∈ Tg := tg_3 (List.mem_of_getElem? (i := 33) rfl) rfl
theorem m514 : (Jvm.Cond.methodLink "PathTiming$Spread" (84 : Nat) ({ cls := "PathTiming$Net", name := "stepLate", desc := "(II)I" } : Jvm.MethodName)) ∈ Tg := tg_3 (List.mem_of_getElem? (i := 34) rfl) rfl
theorem m515 : (Jvm.Cond.instanceMethod ({ cls := "PathTiming$Net", name := "stepLate", desc := "(II)I" } : Jvm.MethodName)) ∈ Tg := tg_3 (List.mem_of_getElem? (i := 35) rfl) rfl
theorem m516 : (Jvm.Cond.selects "PathTiming$Net" ({ cls := "PathTiming$Net", name := "stepLate", desc := "(II)I" } : Jvm.MethodName) ({ cls := "PathTiming$Net", name := "stepLate", desc := "(II)I" } : Jvm.MethodName)) ∈ Tg := tg_3 (List.mem_of_getElem? (i := 36) rfl) rfl
theorem m517 : (Jvm.Cond.code ({ cls := "PathTiming$Net", name := "stepLate", desc := "(II)I" } : Jvm.MethodName) prog_5_method_14_code (3 : Nat) (Option.some Jvm.ClassFile.FieldType.int)) ∈ Tg := tg_3 (List.mem_of_getElem? (i := 37) rfl) rfl
theorem m518 : (Jvm.Cond.methodLink "PathTiming$Spread" (67 : Nat) ({ cls := "PathTiming$Spread", name := "join", desc := "(IIII)V" } : Jvm.MethodName)) ∈ Tg := tg_3 (List.mem_of_getElem? (i := 38) rfl) rfl
theorem m519 : (Jvm.Cond.methodLink "PathTiming$ClockWays" (73 : Nat) ({ cls := "PathTiming$ClockWays", name := "markNeeded", desc := "()V" } : Jvm.MethodName)) ∈ Tg := tg_3 (List.mem_of_getElem? (i := 39) rfl) rfl
theorem m521 : (Jvm.Cond.instanceMethod ({ cls := "PathTiming$ClockWays", name := "markNeeded", desc := "()V" } : Jvm.MethodName)) ∈ Tg := tg_3 (List.mem_of_getElem? (i := 41) rfl) rfl
theorem m522 : (Jvm.Cond.code ({ cls := "PathTiming$ClockWays", name := "markNeeded", desc := "()V" } : Jvm.MethodName) prog_3_method_8_code (3 : Nat) (Option.none : Option Jvm.ClassFile.FieldType)) ∈ Tg := tg_3 (List.mem_of_getElem? (i := 42) rfl) rfl
theorem m523 : (Jvm.Cond.methodLink "PathTiming$ClockWays" (137 : Nat) ({ cls := "PathTiming$ClockWays", name := "markNeededBy", desc := "(II)V" } : Jvm.MethodName)) ∈ Tg := tg_3 (List.mem_of_getElem? (i := 43) rfl) rfl
theorem m525 : (Jvm.Cond.instanceMethod ({ cls := "PathTiming$ClockWays", name := "markNeededBy", desc := "(II)V" } : Jvm.MethodName)) ∈ Tg := tg_3 (List.mem_of_getElem? (i := 45) rfl) rfl
theorem m526 : (Jvm.Cond.code ({ cls := "PathTiming$ClockWays", name := "markNeededBy", desc := "(II)V" } : Jvm.MethodName) prog_3_method_9_code (6 : Nat) (Option.none : Option Jvm.ClassFile.FieldType)) ∈ Tg := tg_3 (List.mem_of_getElem? (i := 46) rfl) rfl
theorem m527 : (Jvm.Cond.methodLink "PathTiming$ClockWays" (141 : Nat) ({ cls := "PathTiming$Net", name := "lets", desc := "(III)Z" } : Jvm.MethodName)) ∈ Tg := tg_3 (List.mem_of_getElem? (i := 47) rfl) rfl
theorem m528 : (Jvm.Cond.methodLink "PathTiming$ClockWays" (76 : Nat) ({ cls := "PathTiming$ClockWays", name := "growTree", desc := "()V" } : Jvm.MethodName)) ∈ Tg := tg_3 (List.mem_of_getElem? (i := 48) rfl) rfl
theorem m530 : (Jvm.Cond.instanceMethod ({ cls := "PathTiming$ClockWays", name := "growTree", desc := "()V" } : Jvm.MethodName)) ∈ Tg := tg_3 (List.mem_of_getElem? (i := 50) rfl) rfl
theorem m531 : (Jvm.Cond.code ({ cls := "PathTiming$ClockWays", name := "growTree", desc := "()V" } : Jvm.MethodName) prog_3_method_10_code (4 : Nat) (Option.none : Option Jvm.ClassFile.FieldType)) ∈ Tg := tg_3 (List.mem_of_getElem? (i := 51) rfl) rfl
theorem m532 : (Jvm.Cond.methodLink "PathTiming$ClockWays" (146 : Nat) ({ cls := "java/util/Arrays", name := "fill", desc := "([II)V" } : Jvm.MethodName)) ∈ Tg := tg_3 (List.mem_of_getElem? (i := 52) rfl) rfl
theorem m534 : (Jvm.Cond.static ({ cls := "PathTiming", name := "elementOf", desc := "(III)I" } : Jvm.MethodName)) ∈ Tg := tg_3 (List.mem_of_getElem? (i := 54) rfl) rfl
theorem m535 : (Jvm.Cond.code ({ cls := "PathTiming", name := "elementOf", desc := "(III)I" } : Jvm.MethodName) prog_1_method_31_code (3 : Nat) (Option.some Jvm.ClassFile.FieldType.int)) ∈ Tg := tg_3 (List.mem_of_getElem? (i := 55) rfl) rfl
theorem m536 : (Jvm.Cond.methodLink "PathTiming$ClockWays" (156 : Nat) ({ cls := "PathTiming$ClockWays", name := "grow", desc := "(IIIII)V" } : Jvm.MethodName)) ∈ Tg := tg_3 (List.mem_of_getElem? (i := 56) rfl) rfl
theorem m538 : (Jvm.Cond.instanceMethod ({ cls := "PathTiming$ClockWays", name := "grow", desc := "(IIIII)V" } : Jvm.MethodName)) ∈ Tg := tg_3 (List.mem_of_getElem? (i := 58) rfl) rfl
theorem m539 : (Jvm.Cond.code ({ cls := "PathTiming$ClockWays", name := "grow", desc := "(IIIII)V" } : Jvm.MethodName) prog_3_method_12_code (6 : Nat) (Option.none : Option Jvm.ClassFile.FieldType)) ∈ Tg := tg_3 (List.mem_of_getElem? (i := 59) rfl) rfl
theorem m540 : (Jvm.Cond.methodLink "PathTiming$ClockWays" (159 : Nat) ({ cls := "PathTiming$ClockWays", name := "growBy", desc := "(III)V" } : Jvm.MethodName)) ∈ Tg := tg_3 (List.mem_of_getElem? (i := 60) rfl) rfl
theorem m542 : (Jvm.Cond.instanceMethod ({ cls := "PathTiming$ClockWays", name := "growBy", desc := "(III)V" } : Jvm.MethodName)) ∈ Tg := tg_3 (List.mem_of_getElem? (i := 62) rfl) rfl
theorem m543 : (Jvm.Cond.code ({ cls := "PathTiming$ClockWays", name := "growBy", desc := "(III)V" } : Jvm.MethodName) prog_3_method_11_code (10 : Nat) (Option.none : Option Jvm.ClassFile.FieldType)) ∈ Tg := tg_3 (List.mem_of_getElem? (i := 63) rfl) rfl
theorem m544 : (Jvm.Cond.methodLink "PathTiming$ClockWays" (163 : Nat) ({ cls := "PathTiming$Net", name := "stepEarly", desc := "(II)I" } : Jvm.MethodName)) ∈ Tg := tg_3 (List.mem_of_getElem? (i := 64) rfl) rfl
theorem m545 : (Jvm.Cond.methodLink "PathTiming$ClockWays" (166 : Nat) ({ cls := "PathTiming$Net", name := "stepLate", desc := "(II)I" } : Jvm.MethodName)) ∈ Tg := tg_3 (List.mem_of_getElem? (i := 65) rfl) rfl
theorem m546 : (Jvm.Cond.methodLink "PathTiming$ClockWays" (88 : Nat) ({ cls := "PathTiming$ClockWays", name := "gather", desc := "(I)V" } : Jvm.MethodName)) ∈ Tg := tg_3 (List.mem_of_getElem? (i := 66) rfl) rfl
theorem m548 : (Jvm.Cond.instanceMethod ({ cls := "PathTiming$ClockWays", name := "gather", desc := "(I)V" } : Jvm.MethodName)) ∈ Tg := tg_3 (List.mem_of_getElem? (i := 68) rfl) rfl
theorem m549 : (Jvm.Cond.code ({ cls := "PathTiming$ClockWays", name := "gather", desc := "(I)V" } : Jvm.MethodName) prog_3_method_13_code (5 : Nat) (Option.none : Option Jvm.ClassFile.FieldType)) ∈ Tg := tg_3 (List.mem_of_getElem? (i := 69) rfl) rfl
theorem m550 : (Jvm.Cond.methodLink "PathTiming$ClockWays" (169 : Nat) ({ cls := "PathTiming$ClockWays", name := "baseOf", desc := "(I)I" } : Jvm.MethodName)) ∈ Tg := tg_3 (List.mem_of_getElem? (i := 70) rfl) rfl
theorem m552 : (Jvm.Cond.instanceMethod ({ cls := "PathTiming$ClockWays", name := "baseOf", desc := "(I)I" } : Jvm.MethodName)) ∈ Tg := tg_3 (List.mem_of_getElem? (i := 72) rfl) rfl
theorem m553 : (Jvm.Cond.code ({ cls := "PathTiming$ClockWays", name := "baseOf", desc := "(I)I" } : Jvm.MethodName) prog_3_method_15_code (4 : Nat) (Option.some Jvm.ClassFile.FieldType.int)) ∈ Tg := tg_3 (List.mem_of_getElem? (i := 73) rfl) rfl
theorem m554 : (Jvm.Cond.methodLink "PathTiming$ClockWays" (92 : Nat) ({ cls := "PathTiming$ClockWays", name := "addWay", desc := "(IIIII)V" } : Jvm.MethodName)) ∈ Tg := tg_3 (List.mem_of_getElem? (i := 74) rfl) rfl
theorem m556 : (Jvm.Cond.instanceMethod ({ cls := "PathTiming$ClockWays", name := "addWay", desc := "(IIIII)V" } : Jvm.MethodName)) ∈ Tg := tg_3 (List.mem_of_getElem? (i := 76) rfl) rfl
theorem m557 : (Jvm.Cond.code ({ cls := "PathTiming$ClockWays", name := "addWay", desc := "(IIIII)V" } : Jvm.MethodName) prog_3_method_14_code (7 : Nat) (Option.none : Option Jvm.ClassFile.FieldType)) ∈ Tg := tg_3 (List.mem_of_getElem? (i := 77) rfl) rfl
theorem m558 : (Jvm.Cond.methodLink "PathTiming" (151 : Nat) ({ cls := "PathTiming$Arrivals", name := "reckon", desc := "()V" } : Jvm.MethodName)) ∈ Tg := tg_3 (List.mem_of_getElem? (i := 78) rfl) rfl
theorem m559 : (Jvm.Cond.instanceMethod ({ cls := "PathTiming$Arrivals", name := "reckon", desc := "()V" } : Jvm.MethodName)) ∈ Tg := tg_3 (List.mem_of_getElem? (i := 79) rfl) rfl
theorem m560 : (Jvm.Cond.selects "PathTiming$Arrivals" ({ cls := "PathTiming$Arrivals", name := "reckon", desc := "()V" } : Jvm.MethodName) ({ cls := "PathTiming$Arrivals", name := "reckon", desc := "()V" } : Jvm.MethodName)) ∈ Tg := tg_3 (List.mem_of_getElem? (i := 80) rfl) rfl
theorem m561 : (Jvm.Cond.code ({ cls := "PathTiming$Arrivals", name := "reckon", desc := "()V" } : Jvm.MethodName) prog_2_method_2_code (3 : Nat) (Option.none : Option Jvm.ClassFile.FieldType)) ∈ Tg := tg_3 (List.mem_of_getElem? (i := 81) rfl) rfl
theorem m562 : (Jvm.Cond.methodLink "PathTiming$Arrivals" (26 : Nat) ({ cls := "PathTiming$Spread", name := "clear", desc := "()V" } : Jvm.MethodName)) ∈ Tg := tg_3 (List.mem_of_getElem? (i := 82) rfl) rfl
theorem m563 : (Jvm.Cond.methodLink "PathTiming$Arrivals" (37 : Nat) ({ cls := "PathTiming$Net", name := "isStart", desc := "(I)Z" } : Jvm.MethodName)) ∈ Tg := tg_3 (List.mem_of_getElem? (i := 83) rfl) rfl
theorem m564 : (Jvm.Cond.instanceMethod ({ cls := "PathTiming$Net", name := "isStart", desc := "(I)Z" } : Jvm.MethodName)) ∈ Tg := tg_3 (List.mem_of_getElem? (i := 84) rfl) rfl
theorem m565 : (Jvm.Cond.selects "PathTiming$Net" ({ cls := "PathTiming$Net", name := "isStart", desc := "(I)Z" } : Jvm.MethodName) ({ cls := "PathTiming$Net", name := "isStart", desc := "(I)Z" } : Jvm.MethodName)) ∈ Tg := tg_3 (List.mem_of_getElem? (i := 85) rfl) rfl
theorem m566 : (Jvm.Cond.code ({ cls := "PathTiming$Net", name := "isStart", desc := "(I)Z" } : Jvm.MethodName) prog_5_method_7_code (2 : Nat) (Option.some Jvm.ClassFile.FieldType.boolean)) ∈ Tg := tg_3 (List.mem_of_getElem? (i := 86) rfl) rfl
theorem m567 : (Jvm.Cond.methodLink "PathTiming$Net" (68 : Nat) ({ cls := "PathTiming$Net", name := "isNode", desc := "(I)Z" } : Jvm.MethodName)) ∈ Tg := tg_3 (List.mem_of_getElem? (i := 87) rfl) rfl
theorem m568 : (Jvm.Cond.instanceMethod ({ cls := "PathTiming$Net", name := "isNode", desc := "(I)Z" } : Jvm.MethodName)) ∈ Tg := tg_3 (List.mem_of_getElem? (i := 88) rfl) rfl
theorem m569 : (Jvm.Cond.selects "PathTiming$Net" ({ cls := "PathTiming$Net", name := "isNode", desc := "(I)Z" } : Jvm.MethodName) ({ cls := "PathTiming$Net", name := "isNode", desc := "(I)Z" } : Jvm.MethodName)) ∈ Tg := tg_3 (List.mem_of_getElem? (i := 89) rfl) rfl
theorem m570 : (Jvm.Cond.code ({ cls := "PathTiming$Net", name := "isNode", desc := "(I)Z" } : Jvm.MethodName) prog_5_method_3_code (2 : Nat) (Option.some Jvm.ClassFile.FieldType.boolean)) ∈ Tg := tg_3 (List.mem_of_getElem? (i := 90) rfl) rfl
theorem m572 : (Jvm.Cond.static ({ cls := "PathTiming", name := "isWithin", desc := "(III)Z" } : Jvm.MethodName)) ∈ Tg := tg_3 (List.mem_of_getElem? (i := 92) rfl) rfl
theorem m573 : (Jvm.Cond.code ({ cls := "PathTiming", name := "isWithin", desc := "(III)Z" } : Jvm.MethodName) prog_1_method_27_code (3 : Nat) (Option.some Jvm.ClassFile.FieldType.boolean)) ∈ Tg := tg_3 (List.mem_of_getElem? (i := 93) rfl) rfl
theorem m574 : (Jvm.Cond.methodLink "PathTiming$Arrivals" (47 : Nat) ({ cls := "PathTiming$Arrivals", name := "begin", desc := "(II)V" } : Jvm.MethodName)) ∈ Tg := tg_3 (List.mem_of_getElem? (i := 94) rfl) rfl
theorem m576 : (Jvm.Cond.instanceMethod ({ cls := "PathTiming$Arrivals", name := "begin", desc := "(II)V" } : Jvm.MethodName)) ∈ Tg := tg_3 (List.mem_of_getElem? (i := 96) rfl) rfl
theorem m577 : (Jvm.Cond.code ({ cls := "PathTiming$Arrivals", name := "begin", desc := "(II)V" } : Jvm.MethodName) prog_2_method_4_code (6 : Nat) (Option.none : Option Jvm.ClassFile.FieldType)) ∈ Tg := tg_3 (List.mem_of_getElem? (i := 97) rfl) rfl
theorem m578 : (Jvm.Cond.methodLink "PathTiming$Arrivals" (86 : Nat) ({ cls := "PathTiming$Spread", name := "join", desc := "(IIII)V" } : Jvm.MethodName)) ∈ Tg := tg_3 (List.mem_of_getElem? (i := 98) rfl) rfl
theorem m579 : (Jvm.Cond.methodLink "PathTiming$Arrivals" (51 : Nat) ({ cls := "PathTiming$Spread", name := "spread", desc := "()V" } : Jvm.MethodName)) ∈ Tg := tg_3 (List.mem_of_getElem? (i := 99) rfl) rfl
theorem m580 : (Jvm.Cond.methodLink "PathTiming" (154 : Nat) ({ cls := "PathTiming$Slacks", name := "reckon", desc := "()V" } : Jvm.MethodName)) ∈ Tg := tg_3 (List.mem_of_getElem? (i := 100) rfl) rfl
theorem m581 : (Jvm.Cond.instanceMethod ({ cls := "PathTiming$Slacks", name := "reckon", desc := "()V" } : Jvm.MethodName)) ∈ Tg := tg_3 (List.mem_of_getElem? (i := 101) rfl) rfl
theorem m582 : (Jvm.Cond.selects "PathTiming$Slacks" ({ cls := "PathTiming$Slacks", name := "reckon", desc := "()V" } : Jvm.MethodName) ({ cls := "PathTiming$Slacks", name := "reckon", desc := "()V" } : Jvm.MethodName)) ∈ Tg := tg_3 (List.mem_of_getElem? (i := 102) rfl) rfl
theorem m583 : (Jvm.Cond.code ({ cls := "PathTiming$Slacks", name := "reckon", desc := "()V" } : Jvm.MethodName) prog_8_method_2_code (3 : Nat) (Option.none : Option Jvm.ClassFile.FieldType)) ∈ Tg := tg_3 (List.mem_of_getElem? (i := 103) rfl) rfl
theorem m584 : (Jvm.Cond.constant "PathTiming$Slacks" (31 : Nat) (1000000000 : Int32)) ∈ Tg := tg_3 (List.mem_of_getElem? (i := 104) rfl) rfl
theorem m585 : (Jvm.Cond.methodLink "PathTiming$Slacks" (32 : Nat) ({ cls := "java/util/Arrays", name := "fill", desc := "([II)V" } : Jvm.MethodName)) ∈ Tg := tg_3 (List.mem_of_getElem? (i := 105) rfl) rfl
theorem m586 : (Jvm.Cond.methodLink "PathTiming$Slacks" (53 : Nat) ({ cls := "PathTiming$ClockWays", name := "begins", desc := "(I)Z" } : Jvm.MethodName)) ∈ Tg := tg_3 (List.mem_of_getElem? (i := 106) rfl) rfl
theorem m587 : (Jvm.Cond.instanceMethod ({ cls := "PathTiming$ClockWays", name := "begins", desc := "(I)Z" } : Jvm.MethodName)) ∈ Tg := tg_3 (List.mem_of_getElem? (i := 107) rfl) rfl
theorem m588 : (Jvm.Cond.selects "PathTiming$ClockWays" ({ cls := "PathTiming$ClockWays", name := "begins", desc := "(I)Z" } : Jvm.MethodName) ({ cls := "PathTiming$ClockWays", name := "begins", desc := "(I)Z" } : Jvm.MethodName)) ∈ Tg := tg_3 (List.mem_of_getElem? (i := 108) rfl) rfl
theorem m589 : (Jvm.Cond.code ({ cls := "PathTiming$ClockWays", name := "begins", desc := "(I)Z" } : Jvm.MethodName) prog_3_method_3_code (2 : Nat) (Option.some Jvm.ClassFile.FieldType.boolean)) ∈ Tg := tg_3 (List.mem_of_getElem? (i := 109) rfl) rfl
theorem m590 : (Jvm.Cond.methodLink "PathTiming$ClockWays" (96 : Nat) ({ cls := "PathTiming$Net", name := "isStart", desc := "(I)Z" } : Jvm.MethodName)) ∈ Tg := tg_3 (List.mem_of_getElem? (i := 110) rfl) rfl
theorem m591 : (Jvm.Cond.methodLink "PathTiming$Slacks" (62 : Nat) ({ cls := "PathTiming$Spread", name := "spreadFrom", desc := "(II)V" } : Jvm.MethodName)) ∈ Tg := tg_3 (List.mem_of_getElem? (i := 111) rfl) rfl
theorem m592 : (Jvm.Cond.instanceMethod ({ cls := "PathTiming$Spread", name := "spreadFrom", desc := "(II)V" } : Jvm.MethodName)) ∈ Tg := tg_3 (List.mem_of_getElem? (i := 112) rfl) rfl
theorem m593 : (Jvm.Cond.selects "PathTiming$Spread" ({ cls := "PathTiming$Spread", name := "spreadFrom", desc := "(II)V" } : Jvm.MethodName) ({ cls := "PathTiming$Spread", name := "spreadFrom", desc := "(II)V" } : Jvm.MethodName)) ∈ Tg := tg_3 (List.mem_of_getElem? (i := 113) rfl) rfl
theorem m594 : (Jvm.Cond.code ({ cls := "PathTiming$Spread", name := "spreadFrom", desc := "(II)V" } : Jvm.MethodName) prog_9_method_6_code (4 : Nat) (Option.none : Option Jvm.ClassFile.FieldType)) ∈ Tg := tg_3 (List.mem_of_getElem? (i := 114) rfl) rfl
theorem m595 : (Jvm.Cond.methodLink "PathTiming$Spread" (58 : Nat) ({ cls := "PathTiming$Spread", name := "clear", desc := "()V" } : Jvm.MethodName)) ∈ Tg := tg_3 (List.mem_of_getElem? (i := 115) rfl) rfl
theorem m596 : (Jvm.Cond.methodLink "PathTiming$Spread" (71 : Nat) ({ cls := "PathTiming$Spread", name := "spread", desc := "()V" } : Jvm.MethodName)) ∈ Tg := tg_3 (List.mem_of_getElem? (i := 116) rfl) rfl
theorem m597 : (Jvm.Cond.methodLink "PathTiming$Slacks" (68 : Nat) ({ cls := "PathTiming$Slacks", name := "reckonPair", desc := "(II)V" } : Jvm.MethodName)) ∈ Tg := tg_3 (List.mem_of_getElem? (i := 117) rfl) rfl
theorem m599 : (Jvm.Cond.instanceMethod ({ cls := "PathTiming$Slacks", name := "reckonPair", desc := "(II)V" } : Jvm.MethodName)) ∈ Tg := tg_3 (List.mem_of_getElem? (i := 119) rfl) rfl
theorem m600 : (Jvm.Cond.code ({ cls := "PathTiming$Slacks", name := "reckonPair", desc := "(II)V" } : Jvm.MethodName) prog_8_method_8_code (10 : Nat) (Option.none : Option Jvm.ClassFile.FieldType)) ∈ Tg := tg_3 (List.mem_of_getElem? (i := 120) rfl) rfl
theorem m601 : (Jvm.Cond.methodLink "PathTiming$Slacks" (88 : Nat) ({ cls := "PathTiming$ClockWays", name := "ends", desc := "(I)Z" } : Jvm.MethodName)) ∈ Tg := tg_3 (List.mem_of_getElem? (i := 121) rfl) rfl
theorem m602 : (Jvm.Cond.instanceMethod ({ cls := "PathTiming$ClockWays", name := "ends", desc := "(I)Z" } : Jvm.MethodName)) ∈ Tg := tg_3 (List.mem_of_getElem? (i := 122) rfl) rfl
theorem m603 : (Jvm.Cond.selects "PathTiming$ClockWays" ({ cls := "PathTiming$ClockWays", name := "ends", desc := "(I)Z" } : Jvm.MethodName) ({ cls := "PathTiming$ClockWays", name := "ends", desc := "(I)Z" } : Jvm.MethodName)) ∈ Tg := tg_3 (List.mem_of_getElem? (i := 123) rfl) rfl
theorem m604 : (Jvm.Cond.code ({ cls := "PathTiming$ClockWays", name := "ends", desc := "(I)Z" } : Jvm.MethodName) prog_3_method_4_code (2 : Nat) (Option.some Jvm.ClassFile.FieldType.boolean)) ∈ Tg := tg_3 (List.mem_of_getElem? (i := 124) rfl) rfl
theorem m605 : (Jvm.Cond.methodLink "PathTiming$ClockWays" (100 : Nat) ({ cls := "PathTiming$Net", name := "isEnd", desc := "(I)Z" } : Jvm.MethodName)) ∈ Tg := tg_3 (List.mem_of_getElem? (i := 125) rfl) rfl
theorem m606 : (Jvm.Cond.instanceMethod ({ cls := "PathTiming$Net", name := "isEnd", desc := "(I)Z" } : Jvm.MethodName)) ∈ Tg := tg_3 (List.mem_of_getElem? (i := 126) rfl) rfl
theorem m607 : (Jvm.Cond.selects "PathTiming$Net" ({ cls := "PathTiming$Net", name := "isEnd", desc := "(I)Z" } : Jvm.MethodName) ({ cls := "PathTiming$Net", name := "isEnd", desc := "(I)Z" } : Jvm.MethodName)) ∈ Tg := tg_3 (List.mem_of_getElem? (i := 127) rfl) rfl
theorem m608 : (Jvm.Cond.code ({ cls := "PathTiming$Net", name := "isEnd", desc := "(I)Z" } : Jvm.MethodName) prog_5_method_8_code (2 : Nat) (Option.some Jvm.ClassFile.FieldType.boolean)) ∈ Tg := tg_3 (List.mem_of_getElem? (i := 128) rfl) rfl
theorem m609 : (Jvm.Cond.constant "PathTiming$Slacks" (91 : Nat) (-1000000000 : Int32)) ∈ Tg := tg_3 (List.mem_of_getElem? (i := 129) rfl) rfl
theorem m610 : (Jvm.Cond.methodLink "PathTiming$Slacks" (84 : Nat) ({ cls := "java/lang/Math", name := "max", desc := "(II)I" } : Jvm.MethodName)) ∈ Tg := tg_3 (List.mem_of_getElem? (i := 130) rfl) rfl
theorem m611 : (Jvm.Cond.static ({ cls := "java/lang/Math", name := "max", desc := "(II)I" } : Jvm.MethodName)) ∈ Tg := tg_3 (List.mem_of_getElem? (i := 131) rfl) rfl
theorem m612 : (Jvm.Cond.code ({ cls := "java/lang/Math", name := "max", desc := "(II)I" } : Jvm.MethodName) prog_18_method_65_code (2 : Nat) (Option.some Jvm.ClassFile.FieldType.int)) ∈ Tg := tg_3 (List.mem_of_getElem? (i := 132) rfl) rfl
theorem m613 : (Jvm.Cond.methodLink "PathTiming$Slacks" (72 : Nat) ({ cls := "java/lang/Math", name := "min", desc := "(II)I" } : Jvm.MethodName)) ∈ Tg := tg_3 (List.mem_of_getElem? (i := 133) rfl) rfl
theorem m614 : (Jvm.Cond.methodLink "PathTiming$Slacks" (114 : Nat) ({ cls := "PathTiming$Rooms", name := "measure", desc := "(II)V" } : Jvm.MethodName)) ∈ Tg := tg_3 (List.mem_of_getElem? (i := 134) rfl) rfl
theorem m615 : (Jvm.Cond.instanceMethod ({ cls := "PathTiming$Rooms", name := "measure", desc := "(II)V" } : Jvm.MethodName)) ∈ Tg := tg_3 (List.mem_of_getElem? (i := 135) rfl) rfl
theorem m616 : (Jvm.Cond.selects "PathTiming$Rooms" ({ cls := "PathTiming$Rooms", name := "measure", desc := "(II)V" } : Jvm.MethodName) ({ cls := "PathTiming$Rooms", name := "measure", desc := "(II)V" } : Jvm.MethodName)) ∈ Tg := tg_3 (List.mem_of_getElem? (i := 136) rfl) rfl
theorem m617 : (Jvm.Cond.code ({ cls := "PathTiming$Rooms", name := "measure", desc := "(II)V" } : Jvm.MethodName) prog_7_method_2_code (5 : Nat) (Option.none : Option Jvm.ClassFile.FieldType)) ∈ Tg := tg_3 (List.mem_of_getElem? (i := 137) rfl) rfl
theorem m618 : (Jvm.Cond.constant "PathTiming$Rooms" (26 : Nat) (1000000000 : Int32)) ∈ Tg := tg_3 (List.mem_of_getElem? (i := 138) rfl) rfl
theorem m619 : (Jvm.Cond.methodLink "PathTiming$Rooms" (42 : Nat) ({ cls := "PathTiming$Rooms", name := "measurePair", desc := "(IIII)V" } : Jvm.MethodName)) ∈ Tg := tg_3 (List.mem_of_getElem? (i := 139) rfl) rfl
theorem m621 : (Jvm.Cond.instanceMethod ({ cls := "PathTiming$Rooms", name := "measurePair", desc := "(IIII)V" } : Jvm.MethodName)) ∈ Tg := tg_3 (List.mem_of_getElem? (i := 141) rfl) rfl
theorem m622 : (Jvm.Cond.code ({ cls := "PathTiming$Rooms", name := "measurePair", desc := "(IIII)V" } : Jvm.MethodName) prog_7_method_3_code (11 : Nat) (Option.none : Option Jvm.ClassFile.FieldType)) ∈ Tg := tg_3 (List.mem_of_getElem? (i := 142) rfl) rfl
theorem m623 : (Jvm.Cond.methodLink "PathTiming$Rooms" (54 : Nat) ({ cls := "PathTiming$ClockWays", name := "credit", desc := "(IIII)I" } : Jvm.MethodName)) ∈ Tg := tg_3 (List.mem_of_getElem? (i := 143) rfl) rfl
theorem m624 : (Jvm.Cond.instanceMethod ({ cls := "PathTiming$ClockWays", name := "credit", desc := "(IIII)I" } : Jvm.MethodName)) ∈ Tg := tg_3 (List.mem_of_getElem? (i := 144) rfl) rfl
theorem m625 : (Jvm.Cond.selects "PathTiming$ClockWays" ({ cls := "PathTiming$ClockWays", name := "credit", desc := "(IIII)I" } : Jvm.MethodName) ({ cls := "PathTiming$ClockWays", name := "credit", desc := "(IIII)I" } : Jvm.MethodName)) ∈ Tg := tg_3 (List.mem_of_getElem? (i := 145) rfl) rfl
theorem m626 : (Jvm.Cond.code ({ cls := "PathTiming$ClockWays", name := "credit", desc := "(IIII)I" } : Jvm.MethodName) prog_3_method_5_code (10 : Nat) (Option.some Jvm.ClassFile.FieldType.int)) ∈ Tg := tg_3 (List.mem_of_getElem? (i := 146) rfl) rfl
theorem m627 : (Jvm.Cond.methodLink "PathTiming$ClockWays" (106 : Nat) ({ cls := "PathTiming$ClockWays", name := "sharedEnd", desc := "(II)I" } : Jvm.MethodName)) ∈ Tg := tg_3 (List.mem_of_getElem? (i := 147) rfl) rfl
theorem m629 : (Jvm.Cond.instanceMethod ({ cls := "PathTiming$ClockWays", name := "sharedEnd", desc := "(II)I" } : Jvm.MethodName)) ∈ Tg := tg_3 (List.mem_of_getElem? (i := 149) rfl) rfl
theorem m630 : (Jvm.Cond.code ({ cls := "PathTiming$ClockWays", name := "sharedEnd", desc := "(II)I" } : Jvm.MethodName) prog_3_method_16_code (6 : Nat) (Option.some Jvm.ClassFile.FieldType.int)) ∈ Tg := tg_3 (List.mem_of_getElem? (i := 150) rfl) rfl
theorem m631 : (Jvm.Cond.methodLink "PathTiming$Rooms" (64 : Nat) ({ cls := "java/lang/Math", name := "min", desc := "(II)I" } : Jvm.MethodName)) ∈ Tg := tg_3 (List.mem_of_getElem? (i := 151) rfl) rfl
theorem m632 : (Jvm.Cond.methodLink "PathTiming$Slacks" (119 : Nat) ({ cls := "PathTiming$Slacks", name := "keepLeast", desc := "(III)V" } : Jvm.MethodName)) ∈ Tg := tg_3 (List.mem_of_getElem? (i := 152) rfl) rfl
theorem m634 : (Jvm.Cond.instanceMethod ({ cls := "PathTiming$Slacks", name := "keepLeast", desc := "(III)V" } : Jvm.MethodName)) ∈ Tg := tg_3 (List.mem_of_getElem? (i := 154) rfl) rfl
theorem m635 : (Jvm.Cond.code ({ cls := "PathTiming$Slacks", name := "keepLeast", desc := "(III)V" } : Jvm.MethodName) prog_8_method_9_code (5 : Nat) (Option.none : Option Jvm.ClassFile.FieldType)) ∈ Tg := tg_3 (List.mem_of_getElem? (i := 155) rfl) rfl
theorem m636 : (Jvm.Cond.methodLink "PathTiming" (155 : Nat) ({ cls := "PathTiming$WorstPaths", name := "forget", desc := "()V" } : Jvm.MethodName)) ∈ Tg := tg_3 (List.mem_of_getElem? (i := 156) rfl) rfl
theorem m637 : (Jvm.Cond.instanceMethod ({ cls := "PathTiming$WorstPaths", name := "forget", desc := "()V" } : Jvm.MethodName)) ∈ Tg := tg_3 (List.mem_of_getElem? (i := 157) rfl) rfl
theorem m638 : (Jvm.Cond.selects "PathTiming$WorstPaths" ({ cls := "PathTiming$WorstPaths", name := "forget", desc := "()V" } : Jvm.MethodName) ({ cls := "PathTiming$WorstPaths", name := "forget", desc := "()V" } : Jvm.MethodName)) ∈ Tg := tg_3 (List.mem_of_getElem? (i := 158) rfl) rfl
theorem m639 : (Jvm.Cond.code ({ cls := "PathTiming$WorstPaths", name := "forget", desc := "()V" } : Jvm.MethodName) prog_10_method_3_code (1 : Nat) (Option.none : Option Jvm.ClassFile.FieldType)) ∈ Tg := tg_3 (List.mem_of_getElem? (i := 159) rfl) rfl
theorem m640 : (Jvm.Cond.methodLink "PathTiming" (158 : Nat) ({ cls := "PathTiming$Slacks", name := "countEnds", desc := "()I" } : Jvm.MethodName)) ∈ Tg := tg_3 (List.mem_of_getElem? (i := 160) rfl) rfl
theorem m641 : (Jvm.Cond.instanceMethod ({ cls := "PathTiming$Slacks", name := "countEnds", desc := "()I" } : Jvm.MethodName)) ∈ Tg := tg_3 (List.mem_of_getElem? (i := 161) rfl) rfl
theorem m642 : (Jvm.Cond.selects "PathTiming$Slacks" ({ cls := "PathTiming$Slacks", name := "countEnds", desc := "()I" } : Jvm.MethodName) ({ cls := "PathTiming$Slacks", name := "countEnds", desc := "()I" } : Jvm.MethodName)) ∈ Tg := tg_3 (List.mem_of_getElem? (i := 162) rfl) rfl
theorem m643 : (Jvm.Cond.code ({ cls := "PathTiming$Slacks", name := "countEnds", desc := "()I" } : Jvm.MethodName) prog_8_method_3_code (3 : Nat) (Option.some Jvm.ClassFile.FieldType.int)) ∈ Tg := tg_3 (List.mem_of_getElem? (i := 163) rfl) rfl
theorem m644 : (Jvm.Cond.methodLink "PathTimingLaw" (121 : Nat) ({ cls := "PathTiming", name := "cycle", desc := "()I" } : Jvm.MethodName)) ∈ Tg := tg_3 (List.mem_of_getElem? (i := 164) rfl) rfl
theorem m645 : (Jvm.Cond.instanceMethod ({ cls := "PathTiming", name := "cycle", desc := "()I" } : Jvm.MethodName)) ∈ Tg := tg_3 (List.mem_of_getElem? (i := 165) rfl) rfl
theorem m646 : (Jvm.Cond.selects "PathTiming" ({ cls := "PathTiming", name := "cycle", desc := "()I" } : Jvm.MethodName) ({ cls := "PathTiming", name := "cycle", desc := "()I" } : Jvm.MethodName)) ∈ Tg := tg_3 (List.mem_of_getElem? (i := 166) rfl) rfl
theorem m647 : (Jvm.Cond.code ({ cls := "PathTiming", name := "cycle", desc := "()I" } : Jvm.MethodName) prog_1_method_12_code (1 : Nat) (Option.some Jvm.ClassFile.FieldType.int)) ∈ Tg := tg_3 (List.mem_of_getElem? (i := 167) rfl) rfl
theorem m648 : (Jvm.Cond.methodLink "PathTimingLaw" (77 : Nat) ({ cls := "PathTimingLaw", name := "clock", desc := "(LPathTiming;II)I" } : Jvm.MethodName)) ∈ Tg := tg_3 (List.mem_of_getElem? (i := 168) rfl) rfl
theorem m649 : (Jvm.Cond.static ({ cls := "PathTimingLaw", name := "clock", desc := "(LPathTiming;II)I" } : Jvm.MethodName)) ∈ Tg := tg_3 (List.mem_of_getElem? (i := 169) rfl) rfl
theorem m650 : (Jvm.Cond.codeWith ({ cls := "PathTimingLaw", name := "clock", desc := "(LPathTiming;II)I" } : Jvm.MethodName) method_3_code (4 : Nat) (Option.some Jvm.ClassFile.FieldType.int) [((0 : Nat), (6 : Nat), (9 : Nat), (13 : Nat))]) ∈ Tg := tg_3 (List.mem_of_getElem? (i := 170) rfl) rfl
theorem m651 : (Jvm.Cond.classLink "PathTimingLaw" (13 : Nat) "java/lang/IllegalArgumentException") ∈ Tg := tg_3 (List.mem_of_getElem? (i := 171) rfl) rfl
theorem m652 : (Jvm.Cond.methodLink "PathTimingLaw" (7 : Nat) ({ cls := "PathTiming", name := "clock", desc := "(II)V" } : Jvm.MethodName)) ∈ Tg := tg_3 (List.mem_of_getElem? (i := 172) rfl) rfl
theorem m653 : (Jvm.Cond.instanceMethod ({ cls := "PathTiming", name := "clock", desc := "(II)V" } : Jvm.MethodName)) ∈ Tg := tg_3 (List.mem_of_getElem? (i := 173) rfl) rfl
theorem m654 : (Jvm.Cond.selects "PathTiming" ({ cls := "PathTiming", name := "clock", desc := "(II)V" } : Jvm.MethodName) ({ cls := "PathTiming", name := "clock", desc := "(II)V" } : Jvm.MethodName)) ∈ Tg := tg_3 (List.mem_of_getElem? (i := 174) rfl) rfl
theorem m655 : (Jvm.Cond.code ({ cls := "PathTiming", name := "clock", desc := "(II)V" } : Jvm.MethodName) prog_1_method_2_code (3 : Nat) (Option.none : Option Jvm.ClassFile.FieldType)) ∈ Tg := tg_3 (List.mem_of_getElem? (i := 175) rfl) rfl
theorem m656 : (Jvm.Cond.constant "PathTiming" (67 : Nat) (1000000 : Int32)) ∈ Tg := tg_3 (List.mem_of_getElem? (i := 176) rfl) rfl
theorem m657 : (Jvm.Cond.methodLink "PathTiming" (68 : Nat) ({ cls := "PathTiming", name := "isWithin", desc := "(III)Z" } : Jvm.MethodName)) ∈ Tg := tg_3 (List.mem_of_getElem? (i := 177) rfl) rfl
theorem m658 : (Jvm.Cond.classLink "PathTiming" (72 : Nat) "java/lang/IllegalArgumentException") ∈ Tg := tg_3 (List.mem_of_getElem? (i := 178) rfl) rfl
theorem m659 : (Jvm.Cond.instantiable "java/lang/IllegalArgumentException" (6 : Nat)) ∈ Tg := tg_3 (List.mem_of_getElem? (i := 179) rfl) rfl
theorem m667 : (Jvm.Cond.selects "java/lang/IllegalArgumentException" ({ cls := "java/lang/Throwable", name := "fillInStackTrace", desc := "(I)Ljava/lang/Throwable;" } : Jvm.MethodName) ({ cls := "java/lang/Throwable", name := "fillInStackTrace", desc := "(I)Ljava/lang/Throwable;" } : Jvm.MethodName)) ∈ Tg := tg_3 (List.mem_of_getElem? (i := 187) rfl) rfl
theorem m668 : (Jvm.Cond.selects "java/lang/IllegalArgumentException" ({ cls := "java/lang/Throwable", name := "fillInStackTrace", desc := "()Ljava/lang/Throwable;" } : Jvm.MethodName) ({ cls := "java/lang/Throwable", name := "fillInStackTrace", desc := "()Ljava/lang/Throwable;" } : Jvm.MethodName)) ∈ Tg := tg_3 (List.mem_of_getElem? (i := 188) rfl) rfl
theorem m669 : (Jvm.Cond.lays "java/lang/IllegalArgumentException" "java/lang/Throwable" "cause" "Ljava/lang/Throwable;") ∈ Tg := tg_3 (List.mem_of_getElem? (i := 189) rfl) rfl
theorem m670 : (Jvm.Cond.lays "java/lang/Throwable" "java/lang/Throwable" "cause" "Ljava/lang/Throwable;") ∈ Tg := tg_3 (List.mem_of_getElem? (i := 190) rfl) rfl
theorem m671 : (Jvm.Cond.lays "java/lang/IllegalArgumentException" "java/lang/Throwable" "stackTrace" "[Ljava/lang/StackTraceElement;") ∈ Tg := tg_3 (List.mem_of_getElem? (i := 191) rfl) rfl
theorem m672 : (Jvm.Cond.lays "java/lang/Throwable" "java/lang/Throwable" "stackTrace" "[Ljava/lang/StackTraceElement;") ∈ Tg := tg_3 (List.mem_of_getElem? (i := 192) rfl) rfl
theorem m673 : (Jvm.Cond.lays "java/lang/IllegalArgumentException" "java/lang/Throwable" "suppressedExceptions" "Ljava/util/List;") ∈ Tg := tg_3 (List.mem_of_getElem? (i := 193) rfl) rfl
theorem m674 : (Jvm.Cond.lays "java/lang/Throwable" "java/lang/Throwable" "suppressedExceptions" "Ljava/util/List;") ∈ Tg := tg_3 (List.mem_of_getElem? (i := 194) rfl) rfl
theorem m675 : (Jvm.Cond.lays "java/lang/IllegalArgumentException" "java/lang/Throwable" "detailMessage" "Ljava/lang/String;") ∈ Tg := tg_3 (List.mem_of_getElem? (i := 195) rfl) rfl
theorem m676 : (Jvm.Cond.lays "java/lang/Throwable" "java/lang/Throwable" "detailMessage" "Ljava/lang/String;") ∈ Tg := tg_3 (List.mem_of_getElem? (i := 196) rfl) rfl
theorem m677 : (Jvm.Cond.lays "java/lang/IllegalArgumentException" "java/lang/Throwable" "backtrace" "Ljava/lang/Object;") ∈ Tg := tg_3 (List.mem_of_getElem? (i := 197) rfl) rfl
theorem m678 : (Jvm.Cond.lays "java/lang/Throwable" "java/lang/Throwable" "backtrace" "Ljava/lang/Object;") ∈ Tg := tg_3 (List.mem_of_getElem? (i := 198) rfl) rfl
theorem m679 : (Jvm.Cond.fieldLink "java/lang/Throwable" (198 : Nat) "java/lang/Throwable" "backtrace" "Ljava/lang/Object;") ∈ Tg := tg_3 (List.mem_of_getElem? (i := 199) rfl) rfl
theorem m680 : (Jvm.Cond.superclass "java/lang/Throwable" "java/lang/Object") ∈ Tg := tg_3 (List.mem_of_getElem? (i := 200) rfl) rfl
theorem m681 : (Jvm.Cond.instanceMethod ({ cls := "java/lang/Throwable", name := "<init>", desc := "()V" } : Jvm.MethodName)) ∈ Tg := tg_3 (List.mem_of_getElem? (i := 201) rfl) rfl
theorem m682 : (Jvm.Cond.code ({ cls := "java/lang/Throwable", name := "<init>", desc := "()V" } : Jvm.MethodName) prog_21_method_1_code (1 : Nat) (Option.none : Option Jvm.ClassFile.FieldType)) ∈ Tg := tg_3 (List.mem_of_getElem? (i := 202) rfl) rfl
theorem m683 : (Jvm.Cond.methodLink "java/lang/Throwable" (1 : Nat) ({ cls := "java/lang/Object", name := "<init>", desc := "()V" } : Jvm.MethodName)) ∈ Tg := tg_3 (List.mem_of_getElem? (i := 203) rfl) rfl
theorem m684 : (Jvm.Cond.fieldLink "java/lang/Throwable" (13 : Nat) "java/lang/Throwable" "UNASSIGNED_STACK" "[Ljava/lang/StackTraceElement;") ∈ Tg := tg_3 (List.mem_of_getElem? (i := 204) rfl) rfl
theorem m686 : (Jvm.Cond.fieldLink "java/lang/Throwable" (20 : Nat) "java/lang/Throwable" "SUPPRESSED_SENTINEL" "Ljava/util/List;") ∈ Tg := tg_3 (List.mem_of_getElem? (i := 206) rfl) rfl
theorem m688 : (Jvm.Cond.methodLink "java/lang/Throwable" (27 : Nat) ({ cls := "java/lang/Throwable", name := "fillInStackTrace", desc := "()Ljava/lang/Throwable;" } : Jvm.MethodName)) ∈ Tg := tg_3 (List.mem_of_getElem? (i := 208) rfl) rfl
theorem m689 : (Jvm.Cond.instanceMethod ({ cls := "java/lang/Throwable", name := "fillInStackTrace", desc := "()Ljava/lang/Throwable;" } : Jvm.MethodName)) ∈ Tg := tg_3 (List.mem_of_getElem? (i := 209) rfl) rfl
theorem m691 : (Jvm.Cond.selects "java/lang/IllegalStateException" ({ cls := "java/lang/Throwable", name := "fillInStackTrace", desc := "()Ljava/lang/Throwable;" } : Jvm.MethodName) ({ cls := "java/lang/Throwable", name := "fillInStackTrace", desc := "()Ljava/lang/Throwable;" } : Jvm.MethodName)) ∈ Tg := tg_3 (List.mem_of_getElem? (i := 211) rfl) rfl
theorem m692 : (Jvm.Cond.selects "java/lang/IndexOutOfBoundsException" ({ cls := "java/lang/Throwable", name := "fillInStackTrace", desc := "()Ljava/lang/Throwable;" } : Jvm.MethodName) ({ cls := "java/lang/Throwable", name := "fillInStackTrace", desc := "()Ljava/lang/Throwable;" } : Jvm.MethodName)) ∈ Tg := tg_3 (List.mem_of_getElem? (i := 212) rfl) rfl
theorem m693 : (Jvm.Cond.codeSync ({ cls := "java/lang/Throwable", name := "fillInStackTrace", desc := "()Ljava/lang/Throwable;" } : Jvm.MethodName) prog_21_method_18_code (1 : Nat) (Option.some (Jvm.ClassFile.FieldType.object "java/lang/Throwable"))) ∈ Tg := tg_3 (List.mem_of_getElem? (i := 213) rfl) rfl
theorem m694 : (Jvm.Cond.methodLink "java/lang/Throwable" (202 : Nat) ({ cls := "java/lang/Throwable", name := "fillInStackTrace", desc := "(I)Ljava/lang/Throwable;" } : Jvm.MethodName)) ∈ Tg := tg_3 (List.mem_of_getElem? (i := 214) rfl) rfl
theorem m696 : (Jvm.Cond.instanceMethod ({ cls := "java/lang/Throwable", name := "fillInStackTrace", desc := "(I)Ljava/lang/Throwable;" } : Jvm.MethodName)) ∈ Tg := tg_3 (List.mem_of_getElem? (i := 216) rfl) rfl
theorem m697 : (Jvm.Cond.instantiable "java/lang/Throwable" (6 : Nat)) ∈ Tg := tg_3 (List.mem_of_getElem? (i := 217) rfl) rfl
theorem m698 : (Jvm.Cond.native ({ cls := "java/lang/Throwable", name := "fillInStackTrace", desc := "(I)Ljava/lang/Throwable;" } : Jvm.MethodName)) ∈ Tg := tg_3 (List.mem_of_getElem? (i := 218) rfl) rfl
theorem m699 : (Jvm.Cond.methodLink "PathTiming" (74 : Nat) ({ cls := "java/lang/IllegalArgumentException", name := "<init>", desc := "()V" } : Jvm.MethodName)) ∈ Tg := tg_3 (List.mem_of_getElem? (i := 219) rfl) rfl
theorem m700 : (Jvm.Cond.instanceMethod ({ cls := "java/lang/IllegalArgumentException", name := "<init>", desc := "()V" } : Jvm.MethodName)) ∈ Tg := tg_3 (List.mem_of_getElem? (i := 220) rfl) rfl
theorem m701 : (Jvm.Cond.code ({ cls := "java/lang/IllegalArgumentException", name := "<init>", desc := "()V" } : Jvm.MethodName) prog_14_method_1_code (1 : Nat) (Option.none : Option Jvm.ClassFile.FieldType)) ∈ Tg := tg_3 (List.mem_of_getElem? (i := 221) rfl) rfl
theorem m702 : (Jvm.Cond.methodLink "java/lang/IllegalArgumentException" (1 : Nat) ({ cls := "java/lang/RuntimeException", name := "<init>", desc := "()V" } : Jvm.MethodName)) ∈ Tg := tg_3 (List.mem_of_getElem? (i := 222) rfl) rfl
theorem m703 : (Jvm.Cond.instanceMethod ({ cls := "java/lang/RuntimeException", name := "<init>", desc := "()V" } : Jvm.MethodName)) ∈ Tg := tg_3 (List.mem_of_getElem? (i := 223) rfl) rfl
theorem m704 : (Jvm.Cond.code ({ cls := "java/lang/RuntimeException", name := "<init>", desc := "()V" } : Jvm.MethodName) prog_19_method_1_code (1 : Nat) (Option.none : Option Jvm.ClassFile.FieldType)) ∈ Tg := tg_3 (List.mem_of_getElem? (i := 224) rfl) rfl
theorem m705 : (Jvm.Cond.methodLink "java/lang/RuntimeException" (1 : Nat) ({ cls := "java/lang/Exception", name := "<init>", desc := "()V" } : Jvm.MethodName)) ∈ Tg := tg_3 (List.mem_of_getElem? (i := 225) rfl) rfl
theorem m706 : (Jvm.Cond.instanceMethod ({ cls := "java/lang/Exception", name := "<init>", desc := "()V" } : Jvm.MethodName)) ∈ Tg := tg_3 (List.mem_of_getElem? (i := 226) rfl) rfl
theorem m707 : (Jvm.Cond.code ({ cls := "java/lang/Exception", name := "<init>", desc := "()V" } : Jvm.MethodName) prog_13_method_1_code (1 : Nat) (Option.none : Option Jvm.ClassFile.FieldType)) ∈ Tg := tg_3 (List.mem_of_getElem? (i := 227) rfl) rfl
theorem m708 : (Jvm.Cond.methodLink "java/lang/Exception" (1 : Nat) ({ cls := "java/lang/Throwable", name := "<init>", desc := "()V" } : Jvm.MethodName)) ∈ Tg := tg_3 (List.mem_of_getElem? (i := 228) rfl) rfl
theorem m709 : (Jvm.Cond.fieldLink "java/lang/Throwable" (198 : Nat) "java/lang/Throwable" "backtrace" "Ljava/lang/Object;") ∈ Tg := tg_3 (List.mem_of_getElem? (i := 229) rfl) rfl
theorem m710 : (Jvm.Cond.fieldLink "java/lang/Throwable" (7 : Nat) "java/lang/Throwable" "cause" "Ljava/lang/Throwable;") ∈ Tg := tg_3 (List.mem_of_getElem? (i := 230) rfl) rfl
theorem m711 : (Jvm.Cond.fieldLink "java/lang/Throwable" (17 : Nat) "java/lang/Throwable" "stackTrace" "[Ljava/lang/StackTraceElement;") ∈ Tg := tg_3 (List.mem_of_getElem? (i := 231) rfl) rfl
theorem m712 : (Jvm.Cond.fieldLink "java/lang/Throwable" (24 : Nat) "java/lang/Throwable" "suppressedExceptions" "Ljava/util/List;") ∈ Tg := tg_3 (List.mem_of_getElem? (i := 232) rfl) rfl
theorem m717 : (Jvm.Cond.lays "java/lang/IllegalArgumentException" "java/lang/Throwable" "depth" "I") ∈ Tg := tg_3 (List.mem_of_getElem? (i := 237) rfl) rfl
theorem m720 : (Jvm.Cond.superclass "java/lang/IllegalArgumentException" "java/lang/RuntimeException") ∈ Tg := tg_4 (List.mem_of_getElem? (i := 0) rfl) rfl
theorem m721 : (Jvm.Cond.methodLink "PathTimingLaw" (86 : Nat) ({ cls := "PathTimingLaw", name := "input", desc := "(LPathTiming;IIII[J)I" } : Jvm.MethodName)) ∈ Tg := tg_4 (List.mem_of_getElem? (i := 1) rfl) rfl
theorem m722 : (Jvm.Cond.static ({ cls := "PathTimingLaw", name := "input", desc := "(LPathTiming;IIII[J)I" } : Jvm.MethodName)) ∈ Tg := tg_4 (List.mem_of_getElem? (i := 2) rfl) rfl
theorem m723 : (Jvm.Cond.codeWith ({ cls := "PathTimingLaw", name := "input", desc := "(LPathTiming;IIII[J)I" } : Jvm.MethodName) method_4_code (7 : Nat) (Option.some Jvm.ClassFile.FieldType.int) [((0 : Nat), (14 : Nat), (17 : Nat), (13 : Nat))]) ∈ Tg := tg_4 (List.mem_of_getElem? (i := 3) rfl) rfl
theorem m724 : (Jvm.Cond.methodLink "PathTimingLaw" (15 : Nat) ({ cls := "PathTiming", name := "input", desc := "(IIII)I" } : Jvm.MethodName)) ∈ Tg := tg_4 (List.mem_of_getElem? (i := 4) rfl) rfl
theorem m725 : (Jvm.Cond.instanceMethod ({ cls := "PathTiming", name := "input", desc := "(IIII)I" } : Jvm.MethodName)) ∈ Tg := tg_4 (List.mem_of_getElem? (i := 5) rfl) rfl
theorem m726 : (Jvm.Cond.selects "PathTiming" ({ cls := "PathTiming", name := "input", desc := "(IIII)I" } : Jvm.MethodName) ({ cls := "PathTiming", name := "input", desc := "(IIII)I" } : Jvm.MethodName)) ∈ Tg := tg_4 (List.mem_of_getElem? (i := 6) rfl) rfl
theorem m727 : (Jvm.Cond.code ({ cls := "PathTiming", name := "input", desc := "(IIII)I" } : Jvm.MethodName) prog_1_method_3_code (6 : Nat) (Option.some Jvm.ClassFile.FieldType.int)) ∈ Tg := tg_4 (List.mem_of_getElem? (i := 7) rfl) rfl
theorem m728 : (Jvm.Cond.methodLink "PathTiming" (86 : Nat) ({ cls := "PathTiming", name := "isInputTime", desc := "(II)Z" } : Jvm.MethodName)) ∈ Tg := tg_4 (List.mem_of_getElem? (i := 8) rfl) rfl
theorem m729 : (Jvm.Cond.static ({ cls := "PathTiming", name := "isInputTime", desc := "(II)Z" } : Jvm.MethodName)) ∈ Tg := tg_4 (List.mem_of_getElem? (i := 9) rfl) rfl
theorem m730 : (Jvm.Cond.code ({ cls := "PathTiming", name := "isInputTime", desc := "(II)Z" } : Jvm.MethodName) prog_1_method_29_code (2 : Nat) (Option.some Jvm.ClassFile.FieldType.boolean)) ∈ Tg := tg_4 (List.mem_of_getElem? (i := 10) rfl) rfl
theorem m731 : (Jvm.Cond.constant "PathTiming" (230 : Nat) (-1000000 : Int32)) ∈ Tg := tg_4 (List.mem_of_getElem? (i := 11) rfl) rfl
theorem m732 : (Jvm.Cond.methodLink "PathTiming" (95 : Nat) ({ cls := "PathTiming$Net", name := "setStart", desc := "(IIII)V" } : Jvm.MethodName)) ∈ Tg := tg_4 (List.mem_of_getElem? (i := 12) rfl) rfl
theorem m733 : (Jvm.Cond.instanceMethod ({ cls := "PathTiming$Net", name := "setStart", desc := "(IIII)V" } : Jvm.MethodName)) ∈ Tg := tg_4 (List.mem_of_getElem? (i := 13) rfl) rfl
theorem m734 : (Jvm.Cond.selects "PathTiming$Net" ({ cls := "PathTiming$Net", name := "setStart", desc := "(IIII)V" } : Jvm.MethodName) ({ cls := "PathTiming$Net", name := "setStart", desc := "(IIII)V" } : Jvm.MethodName)) ∈ Tg := tg_4 (List.mem_of_getElem? (i := 14) rfl) rfl
theorem m735 : (Jvm.Cond.code ({ cls := "PathTiming$Net", name := "setStart", desc := "(IIII)V" } : Jvm.MethodName) prog_5_method_11_code (5 : Nat) (Option.none : Option Jvm.ClassFile.FieldType)) ∈ Tg := tg_4 (List.mem_of_getElem? (i := 15) rfl) rfl
theorem m736 : (Jvm.Cond.methodLink "PathTimingLaw" (90 : Nat) ({ cls := "PathTimingLaw", name := "gate", desc := "(LPathTiming;I[J)I" } : Jvm.MethodName)) ∈ Tg := tg_4 (List.mem_of_getElem? (i := 16) rfl) rfl
theorem m737 : (Jvm.Cond.static ({ cls := "PathTimingLaw", name := "gate", desc := "(LPathTiming;I[J)I" } : Jvm.MethodName)) ∈ Tg := tg_4 (List.mem_of_getElem? (i := 17) rfl) rfl
theorem m738 : (Jvm.Cond.codeWith ({ cls := "PathTimingLaw", name := "gate", desc := "(LPathTiming;I[J)I" } : Jvm.MethodName) method_5_code (4 : Nat) (Option.some Jvm.ClassFile.FieldType.int) [((0 : Nat), (9 : Nat), (12 : Nat), (13 : Nat))]) ∈ Tg := tg_4 (List.mem_of_getElem? (i := 18) rfl) rfl
theorem m739 : (Jvm.Cond.methodLink "PathTimingLaw" (19 : Nat) ({ cls := "PathTiming", name := "gate", desc := "(I)I" } : Jvm.MethodName)) ∈ Tg := tg_4 (List.mem_of_getElem? (i := 19) rfl) rfl
theorem m740 : (Jvm.Cond.instanceMethod ({ cls := "PathTiming", name := "gate", desc := "(I)I" } : Jvm.MethodName)) ∈ Tg := tg_4 (List.mem_of_getElem? (i := 20) rfl) rfl
theorem m741 : (Jvm.Cond.selects "PathTiming" ({ cls := "PathTiming", name := "gate", desc := "(I)I" } : Jvm.MethodName) ({ cls := "PathTiming", name := "gate", desc := "(I)I" } : Jvm.MethodName)) ∈ Tg := tg_4 (List.mem_of_getElem? (i := 21) rfl) rfl
theorem m742 : (Jvm.Cond.code ({ cls := "PathTiming", name := "gate", desc := "(I)I" } : Jvm.MethodName) prog_1_method_4_code (2 : Nat) (Option.some Jvm.ClassFile.FieldType.int)) ∈ Tg := tg_4 (List.mem_of_getElem? (i := 22) rfl) rfl
theorem m743 : (Jvm.Cond.methodLink "PathTimingLaw" (102 : Nat) ({ cls := "PathTimingLaw", name := "wire", desc := "(LPathTiming;IIIII)I" } : Jvm.MethodName)) ∈ Tg := tg_4 (List.mem_of_getElem? (i := 23) rfl) rfl
theorem m744 : (Jvm.Cond.static ({ cls := "PathTimingLaw", name := "wire", desc := "(LPathTiming;IIIII)I" } : Jvm.MethodName)) ∈ Tg := tg_4 (List.mem_of_getElem? (i := 24) rfl) rfl
theorem m745 : (Jvm.Cond.codeWith ({ cls := "PathTimingLaw", name := "wire", desc := "(LPathTiming;IIIII)I" } : Jvm.MethodName) method_6_code (7 : Nat) (Option.some Jvm.ClassFile.FieldType.int) [((0 : Nat), (11 : Nat), (14 : Nat), (13 : Nat))]) ∈ Tg := tg_4 (List.mem_of_getElem? (i := 25) rfl) rfl
theorem m746 : (Jvm.Cond.methodLink "PathTimingLaw" (23 : Nat) ({ cls := "PathTiming", name := "wire", desc := "(IIIII)V" } : Jvm.MethodName)) ∈ Tg := tg_4 (List.mem_of_getElem? (i := 26) rfl) rfl
theorem m747 : (Jvm.Cond.instanceMethod ({ cls := "PathTiming", name := "wire", desc := "(IIIII)V" } : Jvm.MethodName)) ∈ Tg := tg_4 (List.mem_of_getElem? (i := 27) rfl) rfl
theorem m748 : (Jvm.Cond.selects "PathTiming" ({ cls := "PathTiming", name := "wire", desc := "(IIIII)V" } : Jvm.MethodName) ({ cls := "PathTiming", name := "wire", desc := "(IIIII)V" } : Jvm.MethodName)) ∈ Tg := tg_4 (List.mem_of_getElem? (i := 28) rfl) rfl
theorem m749 : (Jvm.Cond.code ({ cls := "PathTiming", name := "wire", desc := "(IIIII)V" } : Jvm.MethodName) prog_1_method_7_code (6 : Nat) (Option.none : Option Jvm.ClassFile.FieldType)) ∈ Tg := tg_4 (List.mem_of_getElem? (i := 29) rfl) rfl
theorem m750 : (Jvm.Cond.methodLink "PathTiming" (99 : Nat) ({ cls := "PathTiming$Net", name := "hasPin", desc := "(II)Z" } : Jvm.MethodName)) ∈ Tg := tg_4 (List.mem_of_getElem? (i := 30) rfl) rfl
theorem m751 : (Jvm.Cond.instanceMethod ({ cls := "PathTiming$Net", name := "hasPin", desc := "(II)Z" } : Jvm.MethodName)) ∈ Tg := tg_4 (List.mem_of_getElem? (i := 31) rfl) rfl
theorem m752 : (Jvm.Cond.selects "PathTiming$Net" ({ cls := "PathTiming$Net", name := "hasPin", desc := "(II)Z" } : Jvm.MethodName) ({ cls := "PathTiming$Net", name := "hasPin", desc := "(II)Z" } : Jvm.MethodName)) ∈ Tg := tg_4 (List.mem_of_getElem? (i := 32) rfl) rfl
theorem m753 : (Jvm.Cond.code ({ cls := "PathTiming$Net", name := "hasPin", desc := "(II)Z" } : Jvm.MethodName) prog_5_method_4_code (3 : Nat) (Option.some Jvm.ClassFile.FieldType.boolean)) ∈ Tg := tg_4 (List.mem_of_getElem? (i := 33) rfl) rfl
theorem m754 : (Jvm.Cond.methodLink "PathTiming" (102 : Nat) ({ cls := "PathTiming$Net", name := "maySend", desc := "(I)Z" } : Jvm.MethodName)) ∈ Tg := tg_4 (List.mem_of_getElem? (i := 34) rfl) rfl
theorem m755 : (Jvm.Cond.instanceMethod ({ cls := "PathTiming$Net", name := "maySend", desc := "(I)Z" } : Jvm.MethodName)) ∈ Tg := tg_4 (List.mem_of_getElem? (i := 35) rfl) rfl
theorem m756 : (Jvm.Cond.selects "PathTiming$Net" ({ cls := "PathTiming$Net", name := "maySend", desc := "(I)Z" } : Jvm.MethodName) ({ cls := "PathTiming$Net", name := "maySend", desc := "(I)Z" } : Jvm.MethodName)) ∈ Tg := tg_4 (List.mem_of_getElem? (i := 36) rfl) rfl
theorem m757 : (Jvm.Cond.code ({ cls := "PathTiming$Net", name := "maySend", desc := "(I)Z" } : Jvm.MethodName) prog_5_method_6_code (2 : Nat) (Option.some Jvm.ClassFile.FieldType.boolean)) ∈ Tg := tg_4 (List.mem_of_getElem? (i := 37) rfl) rfl
theorem m758 : (Jvm.Cond.methodLink "PathTiming" (106 : Nat) ({ cls := "PathTiming", name := "isDelay", desc := "(II)Z" } : Jvm.MethodName)) ∈ Tg := tg_4 (List.mem_of_getElem? (i := 38) rfl) rfl
theorem m759 : (Jvm.Cond.static ({ cls := "PathTiming", name := "isDelay", desc := "(II)Z" } : Jvm.MethodName)) ∈ Tg := tg_4 (List.mem_of_getElem? (i := 39) rfl) rfl
theorem m760 : (Jvm.Cond.code ({ cls := "PathTiming", name := "isDelay", desc := "(II)Z" } : Jvm.MethodName) prog_1_method_28_code (2 : Nat) (Option.some Jvm.ClassFile.FieldType.boolean)) ∈ Tg := tg_4 (List.mem_of_getElem? (i := 40) rfl) rfl
theorem m761 : (Jvm.Cond.methodLink "PathTiming" (109 : Nat) ({ cls := "PathTiming$Net", name := "setWire", desc := "(IIII)V" } : Jvm.MethodName)) ∈ Tg := tg_4 (List.mem_of_getElem? (i := 41) rfl) rfl
theorem m762 : (Jvm.Cond.instanceMethod ({ cls := "PathTiming$Net", name := "setWire", desc := "(IIII)V" } : Jvm.MethodName)) ∈ Tg := tg_4 (List.mem_of_getElem? (i := 42) rfl) rfl
theorem m763 : (Jvm.Cond.selects "PathTiming$Net" ({ cls := "PathTiming$Net", name := "setWire", desc := "(IIII)V" } : Jvm.MethodName) ({ cls := "PathTiming$Net", name := "setWire", desc := "(IIII)V" } : Jvm.MethodName)) ∈ Tg := tg_4 (List.mem_of_getElem? (i := 43) rfl) rfl
theorem m764 : (Jvm.Cond.code ({ cls := "PathTiming$Net", name := "setWire", desc := "(IIII)V" } : Jvm.MethodName) prog_5_method_9_code (5 : Nat) (Option.none : Option Jvm.ClassFile.FieldType)) ∈ Tg := tg_4 (List.mem_of_getElem? (i := 44) rfl) rfl
theorem m765 : (Jvm.Cond.methodLink "PathTimingLaw" (106 : Nat) ({ cls := "PathTimingLaw", name := "sense", desc := "(LPathTiming;III)I" } : Jvm.MethodName)) ∈ Tg := tg_4 (List.mem_of_getElem? (i := 45) rfl) rfl
theorem m766 : (Jvm.Cond.static ({ cls := "PathTimingLaw", name := "sense", desc := "(LPathTiming;III)I" } : Jvm.MethodName)) ∈ Tg := tg_4 (List.mem_of_getElem? (i := 46) rfl) rfl
theorem m767 : (Jvm.Cond.codeWith ({ cls := "PathTimingLaw", name := "sense", desc := "(LPathTiming;III)I" } : Jvm.MethodName) method_7_code (5 : Nat) (Option.some Jvm.ClassFile.FieldType.int) [((0 : Nat), (7 : Nat), (10 : Nat), (13 : Nat))]) ∈ Tg := tg_4 (List.mem_of_getElem? (i := 47) rfl) rfl
theorem m768 : (Jvm.Cond.methodLink "PathTimingLaw" (27 : Nat) ({ cls := "PathTiming", name := "sense", desc := "(III)V" } : Jvm.MethodName)) ∈ Tg := tg_4 (List.mem_of_getElem? (i := 48) rfl) rfl
theorem m769 : (Jvm.Cond.instanceMethod ({ cls := "PathTiming", name := "sense", desc := "(III)V" } : Jvm.MethodName)) ∈ Tg := tg_4 (List.mem_of_getElem? (i := 49) rfl) rfl
theorem m770 : (Jvm.Cond.selects "PathTiming" ({ cls := "PathTiming", name := "sense", desc := "(III)V" } : Jvm.MethodName) ({ cls := "PathTiming", name := "sense", desc := "(III)V" } : Jvm.MethodName)) ∈ Tg := tg_4 (List.mem_of_getElem? (i := 50) rfl) rfl
theorem m771 : (Jvm.Cond.code ({ cls := "PathTiming", name := "sense", desc := "(III)V" } : Jvm.MethodName) prog_1_method_8_code (4 : Nat) (Option.none : Option Jvm.ClassFile.FieldType)) ∈ Tg := tg_4 (List.mem_of_getElem? (i := 51) rfl) rfl
theorem m772 : (Jvm.Cond.methodLink "PathTimingLaw" (110 : Nat) ({ cls := "PathTimingLaw", name := "delay", desc := "(LPathTiming;IIIII)I" } : Jvm.MethodName)) ∈ Tg := tg_4 (List.mem_of_getElem? (i := 52) rfl) rfl
theorem m773 : (Jvm.Cond.static ({ cls := "PathTimingLaw", name := "delay", desc := "(LPathTiming;IIIII)I" } : Jvm.MethodName)) ∈ Tg := tg_4 (List.mem_of_getElem? (i := 53) rfl) rfl
theorem m774 : (Jvm.Cond.codeWith ({ cls := "PathTimingLaw", name := "delay", desc := "(LPathTiming;IIIII)I" } : Jvm.MethodName) method_8_code (7 : Nat) (Option.some Jvm.ClassFile.FieldType.int) [((0 : Nat), (11 : Nat), (14 : Nat), (13 : Nat))]) ∈ Tg := tg_4 (List.mem_of_getElem? (i := 54) rfl) rfl
theorem m775 : (Jvm.Cond.methodLink "PathTimingLaw" (31 : Nat) ({ cls := "PathTiming", name := "delay", desc := "(IIIII)V" } : Jvm.MethodName)) ∈ Tg := tg_4 (List.mem_of_getElem? (i := 55) rfl) rfl
theorem m776 : (Jvm.Cond.instanceMethod ({ cls := "PathTiming", name := "delay", desc := "(IIIII)V" } : Jvm.MethodName)) ∈ Tg := tg_4 (List.mem_of_getElem? (i := 56) rfl) rfl
theorem m777 : (Jvm.Cond.selects "PathTiming" ({ cls := "PathTiming", name := "delay", desc := "(IIIII)V" } : Jvm.MethodName) ({ cls := "PathTiming", name := "delay", desc := "(IIIII)V" } : Jvm.MethodName)) ∈ Tg := tg_4 (List.mem_of_getElem? (i := 57) rfl) rfl
theorem m778 : (Jvm.Cond.code ({ cls := "PathTiming", name := "delay", desc := "(IIIII)V" } : Jvm.MethodName) prog_1_method_9_code (6 : Nat) (Option.none : Option Jvm.ClassFile.FieldType)) ∈ Tg := tg_4 (List.mem_of_getElem? (i := 58) rfl) rfl
theorem m779 : (Jvm.Cond.methodLink "PathTiming" (119 : Nat) ({ cls := "PathTiming$Net", name := "hasDelay", desc := "(II)Z" } : Jvm.MethodName)) ∈ Tg := tg_4 (List.mem_of_getElem? (i := 59) rfl) rfl
theorem m780 : (Jvm.Cond.instanceMethod ({ cls := "PathTiming$Net", name := "hasDelay", desc := "(II)Z" } : Jvm.MethodName)) ∈ Tg := tg_4 (List.mem_of_getElem? (i := 60) rfl) rfl
theorem m781 : (Jvm.Cond.selects "PathTiming$Net" ({ cls := "PathTiming$Net", name := "hasDelay", desc := "(II)Z" } : Jvm.MethodName) ({ cls := "PathTiming$Net", name := "hasDelay", desc := "(II)Z" } : Jvm.MethodName)) ∈ Tg := tg_4 (List.mem_of_getElem? (i := 61) rfl) rfl
theorem m782 : (Jvm.Cond.code ({ cls := "PathTiming$Net", name := "hasDelay", desc := "(II)Z" } : Jvm.MethodName) prog_5_method_5_code (3 : Nat) (Option.some Jvm.ClassFile.FieldType.boolean)) ∈ Tg := tg_4 (List.mem_of_getElem? (i := 62) rfl) rfl
theorem m783 : (Jvm.Cond.methodLink "PathTiming$Net" (72 : Nat) ({ cls := "PathTiming$Net", name := "hasPin", desc := "(II)Z" } : Jvm.MethodName)) ∈ Tg := tg_4 (List.mem_of_getElem? (i := 63) rfl) rfl
theorem m784 : (Jvm.Cond.methodLink "PathTiming" (122 : Nat) ({ cls := "PathTiming", name := "isBit", desc := "(I)Z" } : Jvm.MethodName)) ∈ Tg := tg_4 (List.mem_of_getElem? (i := 64) rfl) rfl
theorem m785 : (Jvm.Cond.static ({ cls := "PathTiming", name := "isBit", desc := "(I)Z" } : Jvm.MethodName)) ∈ Tg := tg_4 (List.mem_of_getElem? (i := 65) rfl) rfl
theorem m786 : (Jvm.Cond.code ({ cls := "PathTiming", name := "isBit", desc := "(I)Z" } : Jvm.MethodName) prog_1_method_26_code (1 : Nat) (Option.some Jvm.ClassFile.FieldType.boolean)) ∈ Tg := tg_4 (List.mem_of_getElem? (i := 66) rfl) rfl
theorem m787 : (Jvm.Cond.methodLink "PathTiming" (125 : Nat) ({ cls := "PathTiming$Net", name := "setGateDelay", desc := "(IIII)V" } : Jvm.MethodName)) ∈ Tg := tg_4 (List.mem_of_getElem? (i := 67) rfl) rfl
theorem m788 : (Jvm.Cond.instanceMethod ({ cls := "PathTiming$Net", name := "setGateDelay", desc := "(IIII)V" } : Jvm.MethodName)) ∈ Tg := tg_4 (List.mem_of_getElem? (i := 68) rfl) rfl
theorem m789 : (Jvm.Cond.selects "PathTiming$Net" ({ cls := "PathTiming$Net", name := "setGateDelay", desc := "(IIII)V" } : Jvm.MethodName) ({ cls := "PathTiming$Net", name := "setGateDelay", desc := "(IIII)V" } : Jvm.MethodName)) ∈ Tg := tg_4 (List.mem_of_getElem? (i := 69) rfl) rfl
theorem m790 : (Jvm.Cond.code ({ cls := "PathTiming$Net", name := "setGateDelay", desc := "(IIII)V" } : Jvm.MethodName) prog_5_method_10_code (5 : Nat) (Option.none : Option Jvm.ClassFile.FieldType)) ∈ Tg := tg_4 (List.mem_of_getElem? (i := 70) rfl) rfl
theorem m791 : (Jvm.Cond.methodLink "PathTimingLaw" (113 : Nat) ({ cls := "PathTimingLaw", name := "check", desc := "(LPathTiming;IIII)I" } : Jvm.MethodName)) ∈ Tg := tg_4 (List.mem_of_getElem? (i := 71) rfl) rfl
theorem m792 : (Jvm.Cond.static ({ cls := "PathTimingLaw", name := "check", desc := "(LPathTiming;IIII)I" } : Jvm.MethodName)) ∈ Tg := tg_4 (List.mem_of_getElem? (i := 72) rfl) rfl
theorem m793 : (Jvm.Cond.codeWith ({ cls := "PathTimingLaw", name := "check", desc := "(LPathTiming;IIII)I" } : Jvm.MethodName) method_9_code (6 : Nat) (Option.some Jvm.ClassFile.FieldType.int) [((0 : Nat), (9 : Nat), (12 : Nat), (13 : Nat))]) ∈ Tg := tg_4 (List.mem_of_getElem? (i := 73) rfl) rfl
theorem m794 : (Jvm.Cond.methodLink "PathTimingLaw" (34 : Nat) ({ cls := "PathTiming", name := "check", desc := "(IIII)V" } : Jvm.MethodName)) ∈ Tg := tg_4 (List.mem_of_getElem? (i := 74) rfl) rfl
theorem m795 : (Jvm.Cond.instanceMethod ({ cls := "PathTiming", name := "check", desc := "(IIII)V" } : Jvm.MethodName)) ∈ Tg := tg_4 (List.mem_of_getElem? (i := 75) rfl) rfl
theorem m796 : (Jvm.Cond.selects "PathTiming" ({ cls := "PathTiming", name := "check", desc := "(IIII)V" } : Jvm.MethodName) ({ cls := "PathTiming", name := "check", desc := "(IIII)V" } : Jvm.MethodName)) ∈ Tg := tg_4 (List.mem_of_getElem? (i := 76) rfl) rfl
theorem m797 : (Jvm.Cond.code ({ cls := "PathTiming", name := "check", desc := "(IIII)V" } : Jvm.MethodName) prog_1_method_10_code (5 : Nat) (Option.none : Option Jvm.ClassFile.FieldType)) ∈ Tg := tg_4 (List.mem_of_getElem? (i := 77) rfl) rfl
theorem m798 : (Jvm.Cond.methodLink "PathTiming" (128 : Nat) ({ cls := "PathTiming$Net", name := "isEnd", desc := "(I)Z" } : Jvm.MethodName)) ∈ Tg := tg_4 (List.mem_of_getElem? (i := 78) rfl) rfl
theorem m799 : (Jvm.Cond.methodLink "PathTiming" (131 : Nat) ({ cls := "PathTiming", name := "isCheckTime", desc := "(I)Z" } : Jvm.MethodName)) ∈ Tg := tg_4 (List.mem_of_getElem? (i := 79) rfl) rfl
theorem m800 : (Jvm.Cond.static ({ cls := "PathTiming", name := "isCheckTime", desc := "(I)Z" } : Jvm.MethodName)) ∈ Tg := tg_4 (List.mem_of_getElem? (i := 80) rfl) rfl
theorem m801 : (Jvm.Cond.code ({ cls := "PathTiming", name := "isCheckTime", desc := "(I)Z" } : Jvm.MethodName) prog_1_method_30_code (1 : Nat) (Option.some Jvm.ClassFile.FieldType.boolean)) ∈ Tg := tg_4 (List.mem_of_getElem? (i := 81) rfl) rfl
theorem m802 : (Jvm.Cond.methodLink "PathTimingLaw" (125 : Nat) ({ cls := "PathTimingLaw", name := "ways", desc := "(LPathTiming;I[J)I" } : Jvm.MethodName)) ∈ Tg := tg_4 (List.mem_of_getElem? (i := 82) rfl) rfl
theorem m803 : (Jvm.Cond.static ({ cls := "PathTimingLaw", name := "ways", desc := "(LPathTiming;I[J)I" } : Jvm.MethodName)) ∈ Tg := tg_4 (List.mem_of_getElem? (i := 83) rfl) rfl
theorem m804 : (Jvm.Cond.codeWith ({ cls := "PathTimingLaw", name := "ways", desc := "(LPathTiming;I[J)I" } : Jvm.MethodName) method_10_code (4 : Nat) (Option.some Jvm.ClassFile.FieldType.int) [((0 : Nat), (9 : Nat), (12 : Nat), (41 : Nat)), ((0 : Nat), (9 : Nat), (15 : Nat), (13 : Nat))]) ∈ Tg := tg_4 (List.mem_of_getElem? (i := 84) rfl) rfl
theorem m805 : (Jvm.Cond.classLink "PathTimingLaw" (41 : Nat) "java/lang/IllegalStateException") ∈ Tg := tg_4 (List.mem_of_getElem? (i := 85) rfl) rfl
theorem m806 : (Jvm.Cond.methodLink "PathTimingLaw" (38 : Nat) ({ cls := "PathTiming", name := "ways", desc := "(I)I" } : Jvm.MethodName)) ∈ Tg := tg_4 (List.mem_of_getElem? (i := 86) rfl) rfl
theorem m807 : (Jvm.Cond.instanceMethod ({ cls := "PathTiming", name := "ways", desc := "(I)I" } : Jvm.MethodName)) ∈ Tg := tg_4 (List.mem_of_getElem? (i := 87) rfl) rfl
theorem m808 : (Jvm.Cond.selects "PathTiming" ({ cls := "PathTiming", name := "ways", desc := "(I)I" } : Jvm.MethodName) ({ cls := "PathTiming", name := "ways", desc := "(I)I" } : Jvm.MethodName)) ∈ Tg := tg_4 (List.mem_of_getElem? (i := 88) rfl) rfl
theorem m809 : (Jvm.Cond.code ({ cls := "PathTiming", name := "ways", desc := "(I)I" } : Jvm.MethodName) prog_1_method_13_code (2 : Nat) (Option.some Jvm.ClassFile.FieldType.int)) ∈ Tg := tg_4 (List.mem_of_getElem? (i := 89) rfl) rfl
theorem m810 : (Jvm.Cond.methodLink "PathTiming" (161 : Nat) ({ cls := "PathTiming", name := "needAnalysis", desc := "()V" } : Jvm.MethodName)) ∈ Tg := tg_4 (List.mem_of_getElem? (i := 90) rfl) rfl
theorem m812 : (Jvm.Cond.instanceMethod ({ cls := "PathTiming", name := "needAnalysis", desc := "()V" } : Jvm.MethodName)) ∈ Tg := tg_4 (List.mem_of_getElem? (i := 92) rfl) rfl
theorem m813 : (Jvm.Cond.code ({ cls := "PathTiming", name := "needAnalysis", desc := "()V" } : Jvm.MethodName) prog_1_method_23_code (1 : Nat) (Option.none : Option Jvm.ClassFile.FieldType)) ∈ Tg := tg_4 (List.mem_of_getElem? (i := 93) rfl) rfl
theorem m814 : (Jvm.Cond.classLink "PathTiming" (219 : Nat) "java/lang/IllegalStateException") ∈ Tg := tg_4 (List.mem_of_getElem? (i := 94) rfl) rfl
theorem m815 : (Jvm.Cond.instantiable "java/lang/IllegalStateException" (6 : Nat)) ∈ Tg := tg_4 (List.mem_of_getElem? (i := 95) rfl) rfl
theorem m817 : (Jvm.Cond.selects "java/lang/IllegalStateException" ({ cls := "java/lang/Throwable", name := "fillInStackTrace", desc := "(I)Ljava/lang/Throwable;" } : Jvm.MethodName) ({ cls := "java/lang/Throwable", name := "fillInStackTrace", desc := "(I)Ljava/lang/Throwable;" } : Jvm.MethodName)) ∈ Tg := tg_4 (List.mem_of_getElem? (i := 97) rfl) rfl
theorem m818 : (Jvm.Cond.lays "java/lang/IllegalStateException" "java/lang/Throwable" "cause" "Ljava/lang/Throwable;") ∈ Tg := tg_4 (List.mem_of_getElem? (i := 98) rfl) rfl
theorem m819 : (Jvm.Cond.lays "java/lang/IllegalStateException" "java/lang/Throwable" "stackTrace" "[Ljava/lang/StackTraceElement;") ∈ Tg := tg_4 (List.mem_of_getElem? (i := 99) rfl) rfl
theorem m820 : (Jvm.Cond.lays "java/lang/IllegalStateException" "java/lang/Throwable" "suppressedExceptions" "Ljava/util/List;") ∈ Tg := tg_4 (List.mem_of_getElem? (i := 100) rfl) rfl
theorem m821 : (Jvm.Cond.lays "java/lang/IllegalStateException" "java/lang/Throwable" "detailMessage" "Ljava/lang/String;") ∈ Tg := tg_4 (List.mem_of_getElem? (i := 101) rfl) rfl
theorem m822 : (Jvm.Cond.lays "java/lang/IllegalStateException" "java/lang/Throwable" "backtrace" "Ljava/lang/Object;") ∈ Tg := tg_4 (List.mem_of_getElem? (i := 102) rfl) rfl
theorem m823 : (Jvm.Cond.methodLink "PathTiming" (221 : Nat) ({ cls := "java/lang/IllegalStateException", name := "<init>", desc := "()V" } : Jvm.MethodName)) ∈ Tg := tg_4 (List.mem_of_getElem? (i := 103) rfl) rfl
theorem m824 : (Jvm.Cond.instanceMethod ({ cls := "java/lang/IllegalStateException", name := "<init>", desc := "()V" } : Jvm.MethodName)) ∈ Tg := tg_4 (List.mem_of_getElem? (i := 104) rfl) rfl
theorem m825 : (Jvm.Cond.code ({ cls := "java/lang/IllegalStateException", name := "<init>", desc := "()V" } : Jvm.MethodName) prog_15_method_1_code (1 : Nat) (Option.none : Option Jvm.ClassFile.FieldType)) ∈ Tg := tg_4 (List.mem_of_getElem? (i := 105) rfl) rfl
theorem m826 : (Jvm.Cond.methodLink "java/lang/IllegalStateException" (1 : Nat) ({ cls := "java/lang/RuntimeException", name := "<init>", desc := "()V" } : Jvm.MethodName)) ∈ Tg := tg_4 (List.mem_of_getElem? (i := 106) rfl) rfl
theorem m827 : (Jvm.Cond.lays "java/lang/IllegalStateException" "java/lang/Throwable" "depth" "I") ∈ Tg := tg_4 (List.mem_of_getElem? (i := 107) rfl) rfl
theorem m828 : (Jvm.Cond.superclass "java/lang/IllegalStateException" "java/lang/RuntimeException") ∈ Tg := tg_4 (List.mem_of_getElem? (i := 108) rfl) rfl
theorem m829 : (Jvm.Cond.methodLink "PathTiming" (164 : Nat) ({ cls := "PathTiming$Net", name := "isNode", desc := "(I)Z" } : Jvm.MethodName)) ∈ Tg := tg_4 (List.mem_of_getElem? (i := 109) rfl) rfl
theorem m830 : (Jvm.Cond.methodLink "PathTimingLaw" (128 : Nat) ({ cls := "PathTimingLaw", name := "arrival", desc := "(LPathTiming;IIIZ[J)I" } : Jvm.MethodName)) ∈ Tg := tg_4 (List.mem_of_getElem? (i := 110) rfl) rfl
theorem m831 : (Jvm.Cond.static ({ cls := "PathTimingLaw", name := "arrival", desc := "(LPathTiming;IIIZ[J)I" } : Jvm.MethodName)) ∈ Tg := tg_4 (List.mem_of_getElem? (i := 111) rfl) rfl
theorem m832 : (Jvm.Cond.codeWith ({ cls := "PathTimingLaw", name := "arrival", desc := "(LPathTiming;IIIZ[J)I" } : Jvm.MethodName) method_11_code (7 : Nat) (Option.some Jvm.ClassFile.FieldType.int) [((0 : Nat), (14 : Nat), (17 : Nat), (41 : Nat)), ((0 : Nat), (14 : Nat), (21 : Nat), (13 : Nat))]) ∈ Tg := tg_4 (List.mem_of_getElem? (i := 112) rfl) rfl
theorem m833 : (Jvm.Cond.methodLink "PathTimingLaw" (43 : Nat) ({ cls := "PathTiming", name := "arrival", desc := "(IIIZ)I" } : Jvm.MethodName)) ∈ Tg := tg_4 (List.mem_of_getElem? (i := 113) rfl) rfl
theorem m834 : (Jvm.Cond.instanceMethod ({ cls := "PathTiming", name := "arrival", desc := "(IIIZ)I" } : Jvm.MethodName)) ∈ Tg := tg_4 (List.mem_of_getElem? (i := 114) rfl) rfl
theorem m835 : (Jvm.Cond.selects "PathTiming" ({ cls := "PathTiming", name := "arrival", desc := "(IIIZ)I" } : Jvm.MethodName) ({ cls := "PathTiming", name := "arrival", desc := "(IIIZ)I" } : Jvm.MethodName)) ∈ Tg := tg_4 (List.mem_of_getElem? (i := 115) rfl) rfl
theorem m836 : (Jvm.Cond.code ({ cls := "PathTiming", name := "arrival", desc := "(IIIZ)I" } : Jvm.MethodName) prog_1_method_14_code (5 : Nat) (Option.some Jvm.ClassFile.FieldType.int)) ∈ Tg := tg_4 (List.mem_of_getElem? (i := 116) rfl) rfl
theorem m837 : (Jvm.Cond.methodLink "PathTiming" (170 : Nat) ({ cls := "PathTiming$Arrivals", name := "timeAt", desc := "(IIIZ)I" } : Jvm.MethodName)) ∈ Tg := tg_4 (List.mem_of_getElem? (i := 117) rfl) rfl
theorem m838 : (Jvm.Cond.instanceMethod ({ cls := "PathTiming$Arrivals", name := "timeAt", desc := "(IIIZ)I" } : Jvm.MethodName)) ∈ Tg := tg_4 (List.mem_of_getElem? (i := 118) rfl) rfl
theorem m839 : (Jvm.Cond.selects "PathTiming$Arrivals" ({ cls := "PathTiming$Arrivals", name := "timeAt", desc := "(IIIZ)I" } : Jvm.MethodName) ({ cls := "PathTiming$Arrivals", name := "timeAt", desc := "(IIIZ)I" } : Jvm.MethodName)) ∈ Tg := tg_4 (List.mem_of_getElem? (i := 119) rfl) rfl
theorem m840 : (Jvm.Cond.code ({ cls := "PathTiming$Arrivals", name := "timeAt", desc := "(IIIZ)I" } : Jvm.MethodName) prog_2_method_3_code (8 : Nat) (Option.some Jvm.ClassFile.FieldType.int)) ∈ Tg := tg_4 (List.mem_of_getElem? (i := 120) rfl) rfl
theorem m841 : (Jvm.Cond.methodLink "PathTiming$Arrivals" (54 : Nat) ({ cls := "PathTiming$Net", name := "isEnd", desc := "(I)Z" } : Jvm.MethodName)) ∈ Tg := tg_4 (List.mem_of_getElem? (i := 121) rfl) rfl
theorem m842 : (Jvm.Cond.methodLink "PathTiming$Arrivals" (57 : Nat) ({ cls := "PathTiming$Arrivals", name := "timeOf", desc := "(LPathTiming$Spread;IZ)I" } : Jvm.MethodName)) ∈ Tg := tg_4 (List.mem_of_getElem? (i := 122) rfl) rfl
theorem m843 : (Jvm.Cond.static ({ cls := "PathTiming$Arrivals", name := "timeOf", desc := "(LPathTiming$Spread;IZ)I" } : Jvm.MethodName)) ∈ Tg := tg_4 (List.mem_of_getElem? (i := 123) rfl) rfl
theorem m844 : (Jvm.Cond.code ({ cls := "PathTiming$Arrivals", name := "timeOf", desc := "(LPathTiming$Spread;IZ)I" } : Jvm.MethodName) prog_2_method_5_code (3 : Nat) (Option.some Jvm.ClassFile.FieldType.int)) ∈ Tg := tg_4 (List.mem_of_getElem? (i := 124) rfl) rfl
theorem m845 : (Jvm.Cond.constant "PathTiming$Arrivals" (64 : Nat) (-2147483648 : Int32)) ∈ Tg := tg_4 (List.mem_of_getElem? (i := 125) rfl) rfl
theorem m846 : (Jvm.Cond.methodLink "PathTimingLaw" (132 : Nat) ({ cls := "PathTimingLaw", name := "slack", desc := "(LPathTiming;II[J)I" } : Jvm.MethodName)) ∈ Tg := tg_4 (List.mem_of_getElem? (i := 126) rfl) rfl
theorem m847 : (Jvm.Cond.static ({ cls := "PathTimingLaw", name := "slack", desc := "(LPathTiming;II[J)I" } : Jvm.MethodName)) ∈ Tg := tg_4 (List.mem_of_getElem? (i := 127) rfl) rfl
theorem m848 : (Jvm.Cond.codeWith ({ cls := "PathTimingLaw", name := "slack", desc := "(LPathTiming;II[J)I" } : Jvm.MethodName) method_12_code (5 : Nat) (Option.some Jvm.ClassFile.FieldType.int) [((0 : Nat), (10 : Nat), (13 : Nat), (41 : Nat)), ((0 : Nat), (10 : Nat), (17 : Nat), (13 : Nat))]) ∈ Tg := tg_4 (List.mem_of_getElem? (i := 128) rfl) rfl
theorem m849 : (Jvm.Cond.methodLink "PathTimingLaw" (47 : Nat) ({ cls := "PathTiming", name := "slack", desc := "(II)I" } : Jvm.MethodName)) ∈ Tg := tg_4 (List.mem_of_getElem? (i := 129) rfl) rfl
theorem m850 : (Jvm.Cond.instanceMethod ({ cls := "PathTiming", name := "slack", desc := "(II)I" } : Jvm.MethodName)) ∈ Tg := tg_4 (List.mem_of_getElem? (i := 130) rfl) rfl
theorem m851 : (Jvm.Cond.selects "PathTiming" ({ cls := "PathTiming", name := "slack", desc := "(II)I" } : Jvm.MethodName) ({ cls := "PathTiming", name := "slack", desc := "(II)I" } : Jvm.MethodName)) ∈ Tg := tg_4 (List.mem_of_getElem? (i := 131) rfl) rfl
theorem m852 : (Jvm.Cond.code ({ cls := "PathTiming", name := "slack", desc := "(II)I" } : Jvm.MethodName) prog_1_method_15_code (3 : Nat) (Option.some Jvm.ClassFile.FieldType.int)) ∈ Tg := tg_4 (List.mem_of_getElem? (i := 132) rfl) rfl
theorem m853 : (Jvm.Cond.methodLink "PathTiming" (174 : Nat) ({ cls := "PathTiming$Slacks", name := "leastAt", desc := "(II)I" } : Jvm.MethodName)) ∈ Tg := tg_4 (List.mem_of_getElem? (i := 133) rfl) rfl
theorem m854 : (Jvm.Cond.instanceMethod ({ cls := "PathTiming$Slacks", name := "leastAt", desc := "(II)I" } : Jvm.MethodName)) ∈ Tg := tg_4 (List.mem_of_getElem? (i := 134) rfl) rfl
theorem m855 : (Jvm.Cond.selects "PathTiming$Slacks" ({ cls := "PathTiming$Slacks", name := "leastAt", desc := "(II)I" } : Jvm.MethodName) ({ cls := "PathTiming$Slacks", name := "leastAt", desc := "(II)I" } : Jvm.MethodName)) ∈ Tg := tg_4 (List.mem_of_getElem? (i := 135) rfl) rfl
theorem m856 : (Jvm.Cond.code ({ cls := "PathTiming$Slacks", name := "leastAt", desc := "(II)I" } : Jvm.MethodName) prog_8_method_4_code (4 : Nat) (Option.some Jvm.ClassFile.FieldType.int)) ∈ Tg := tg_4 (List.mem_of_getElem? (i := 136) rfl) rfl
theorem m857 : (Jvm.Cond.constant "PathTiming$Slacks" (71 : Nat) (-2147483648 : Int32)) ∈ Tg := tg_4 (List.mem_of_getElem? (i := 137) rfl) rfl
theorem m858 : (Jvm.Cond.methodLink "PathTimingLaw" (136 : Nat) ({ cls := "PathTimingLaw", name := "worst", desc := "(LPathTiming;I[J)I" } : Jvm.MethodName)) ∈ Tg := tg_4 (List.mem_of_getElem? (i := 138) rfl) rfl
theorem m859 : (Jvm.Cond.static ({ cls := "PathTimingLaw", name := "worst", desc := "(LPathTiming;I[J)I" } : Jvm.MethodName)) ∈ Tg := tg_4 (List.mem_of_getElem? (i := 139) rfl) rfl
theorem m860 : (Jvm.Cond.codeWith ({ cls := "PathTimingLaw", name := "worst", desc := "(LPathTiming;I[J)I" } : Jvm.MethodName) method_13_code (4 : Nat) (Option.some Jvm.ClassFile.FieldType.int) [((0 : Nat), (9 : Nat), (12 : Nat), (41 : Nat)), ((0 : Nat), (9 : Nat), (15 : Nat), (13 : Nat))]) ∈ Tg := tg_4 (List.mem_of_getElem? (i := 140) rfl) rfl
theorem m861 : (Jvm.Cond.methodLink "PathTimingLaw" (51 : Nat) ({ cls := "PathTiming", name := "worst", desc := "(I)I" } : Jvm.MethodName)) ∈ Tg := tg_4 (List.mem_of_getElem? (i := 141) rfl) rfl
theorem m862 : (Jvm.Cond.instanceMethod ({ cls := "PathTiming", name := "worst", desc := "(I)I" } : Jvm.MethodName)) ∈ Tg := tg_4 (List.mem_of_getElem? (i := 142) rfl) rfl
theorem m863 : (Jvm.Cond.selects "PathTiming" ({ cls := "PathTiming", name := "worst", desc := "(I)I" } : Jvm.MethodName) ({ cls := "PathTiming", name := "worst", desc := "(I)I" } : Jvm.MethodName)) ∈ Tg := tg_4 (List.mem_of_getElem? (i := 143) rfl) rfl
theorem m864 : (Jvm.Cond.code ({ cls := "PathTiming", name := "worst", desc := "(I)I" } : Jvm.MethodName) prog_1_method_16_code (2 : Nat) (Option.some Jvm.ClassFile.FieldType.int)) ∈ Tg := tg_4 (List.mem_of_getElem? (i := 144) rfl) rfl
theorem m865 : (Jvm.Cond.methodLink "PathTiming" (177 : Nat) ({ cls := "PathTiming", name := "needBit", desc := "(I)V" } : Jvm.MethodName)) ∈ Tg := tg_4 (List.mem_of_getElem? (i := 145) rfl) rfl
theorem m866 : (Jvm.Cond.static ({ cls := "PathTiming", name := "needBit", desc := "(I)V" } : Jvm.MethodName)) ∈ Tg := tg_4 (List.mem_of_getElem? (i := 146) rfl) rfl
theorem m867 : (Jvm.Cond.code ({ cls := "PathTiming", name := "needBit", desc := "(I)V" } : Jvm.MethodName) prog_1_method_25_code (1 : Nat) (Option.none : Option Jvm.ClassFile.FieldType)) ∈ Tg := tg_4 (List.mem_of_getElem? (i := 147) rfl) rfl
theorem m868 : (Jvm.Cond.methodLink "PathTiming" (181 : Nat) ({ cls := "PathTiming$Slacks", name := "leastOfAll", desc := "(I)I" } : Jvm.MethodName)) ∈ Tg := tg_4 (List.mem_of_getElem? (i := 148) rfl) rfl
theorem m869 : (Jvm.Cond.instanceMethod ({ cls := "PathTiming$Slacks", name := "leastOfAll", desc := "(I)I" } : Jvm.MethodName)) ∈ Tg := tg_4 (List.mem_of_getElem? (i := 149) rfl) rfl
theorem m870 : (Jvm.Cond.selects "PathTiming$Slacks" ({ cls := "PathTiming$Slacks", name := "leastOfAll", desc := "(I)I" } : Jvm.MethodName) ({ cls := "PathTiming$Slacks", name := "leastOfAll", desc := "(I)I" } : Jvm.MethodName)) ∈ Tg := tg_4 (List.mem_of_getElem? (i := 150) rfl) rfl
theorem m871 : (Jvm.Cond.code ({ cls := "PathTiming$Slacks", name := "leastOfAll", desc := "(I)I" } : Jvm.MethodName) prog_8_method_5_code (4 : Nat) (Option.some Jvm.ClassFile.FieldType.int)) ∈ Tg := tg_4 (List.mem_of_getElem? (i := 151) rfl) rfl
theorem m872 : (Jvm.Cond.methodLink "PathTimingLaw" (139 : Nat) ({ cls := "PathTimingLaw", name := "total", desc := "(LPathTiming;I[J)I" } : Jvm.MethodName)) ∈ Tg := tg_4 (List.mem_of_getElem? (i := 152) rfl) rfl
theorem m873 : (Jvm.Cond.static ({ cls := "PathTimingLaw", name := "total", desc := "(LPathTiming;I[J)I" } : Jvm.MethodName)) ∈ Tg := tg_4 (List.mem_of_getElem? (i := 153) rfl) rfl
theorem m874 : (Jvm.Cond.codeWith ({ cls := "PathTimingLaw", name := "total", desc := "(LPathTiming;I[J)I" } : Jvm.MethodName) method_14_code (4 : Nat) (Option.some Jvm.ClassFile.FieldType.int) [((0 : Nat), (9 : Nat), (12 : Nat), (41 : Nat)), ((0 : Nat), (9 : Nat), (15 : Nat), (13 : Nat))]) ∈ Tg := tg_4 (List.mem_of_getElem? (i := 154) rfl) rfl
theorem m875 : (Jvm.Cond.methodLink "PathTimingLaw" (54 : Nat) ({ cls := "PathTiming", name := "total", desc := "(I)I" } : Jvm.MethodName)) ∈ Tg := tg_4 (List.mem_of_getElem? (i := 155) rfl) rfl
theorem m876 : (Jvm.Cond.instanceMethod ({ cls := "PathTiming", name := "total", desc := "(I)I" } : Jvm.MethodName)) ∈ Tg := tg_4 (List.mem_of_getElem? (i := 156) rfl) rfl
theorem m877 : (Jvm.Cond.selects "PathTiming" ({ cls := "PathTiming", name := "total", desc := "(I)I" } : Jvm.MethodName) ({ cls := "PathTiming", name := "total", desc := "(I)I" } : Jvm.MethodName)) ∈ Tg := tg_4 (List.mem_of_getElem? (i := 157) rfl) rfl
theorem m878 : (Jvm.Cond.code ({ cls := "PathTiming", name := "total", desc := "(I)I" } : Jvm.MethodName) prog_1_method_17_code (2 : Nat) (Option.some Jvm.ClassFile.FieldType.int)) ∈ Tg := tg_4 (List.mem_of_getElem? (i := 158) rfl) rfl
theorem m879 : (Jvm.Cond.methodLink "PathTiming" (185 : Nat) ({ cls := "PathTiming$Slacks", name := "sumBelowZero", desc := "(I)I" } : Jvm.MethodName)) ∈ Tg := tg_4 (List.mem_of_getElem? (i := 159) rfl) rfl
theorem m880 : (Jvm.Cond.instanceMethod ({ cls := "PathTiming$Slacks", name := "sumBelowZero", desc := "(I)I" } : Jvm.MethodName)) ∈ Tg := tg_4 (List.mem_of_getElem? (i := 160) rfl) rfl
theorem m881 : (Jvm.Cond.selects "PathTiming$Slacks" ({ cls := "PathTiming$Slacks", name := "sumBelowZero", desc := "(I)I" } : Jvm.MethodName) ({ cls := "PathTiming$Slacks", name := "sumBelowZero", desc := "(I)I" } : Jvm.MethodName)) ∈ Tg := tg_4 (List.mem_of_getElem? (i := 161) rfl) rfl
theorem m882 : (Jvm.Cond.code ({ cls := "PathTiming$Slacks", name := "sumBelowZero", desc := "(I)I" } : Jvm.MethodName) prog_8_method_6_code (4 : Nat) (Option.some Jvm.ClassFile.FieldType.int)) ∈ Tg := tg_4 (List.mem_of_getElem? (i := 162) rfl) rfl
theorem m883 : (Jvm.Cond.methodLink "PathTimingLaw" (142 : Nat) ({ cls := "PathTimingLaw", name := "leastPeriod", desc := "(LPathTiming;[J)I" } : Jvm.MethodName)) ∈ Tg := tg_4 (List.mem_of_getElem? (i := 163) rfl) rfl
theorem m884 : (Jvm.Cond.static ({ cls := "PathTimingLaw", name := "leastPeriod", desc := "(LPathTiming;[J)I" } : Jvm.MethodName)) ∈ Tg := tg_4 (List.mem_of_getElem? (i := 164) rfl) rfl
theorem m885 : (Jvm.Cond.codeWith ({ cls := "PathTimingLaw", name := "leastPeriod", desc := "(LPathTiming;[J)I" } : Jvm.MethodName) method_15_code (3 : Nat) (Option.some Jvm.ClassFile.FieldType.int) [((0 : Nat), (8 : Nat), (11 : Nat), (41 : Nat))]) ∈ Tg := tg_4 (List.mem_of_getElem? (i := 165) rfl) rfl
theorem m886 : (Jvm.Cond.methodLink "PathTimingLaw" (57 : Nat) ({ cls := "PathTiming", name := "leastPeriod", desc := "()I" } : Jvm.MethodName)) ∈ Tg := tg_4 (List.mem_of_getElem? (i := 166) rfl) rfl
theorem m887 : (Jvm.Cond.instanceMethod ({ cls := "PathTiming", name := "leastPeriod", desc := "()I" } : Jvm.MethodName)) ∈ Tg := tg_4 (List.mem_of_getElem? (i := 167) rfl) rfl
theorem m888 : (Jvm.Cond.selects "PathTiming" ({ cls := "PathTiming", name := "leastPeriod", desc := "()I" } : Jvm.MethodName) ({ cls := "PathTiming", name := "leastPeriod", desc := "()I" } : Jvm.MethodName)) ∈ Tg := tg_4 (List.mem_of_getElem? (i := 168) rfl) rfl
theorem m889 : (Jvm.Cond.code ({ cls := "PathTiming", name := "leastPeriod", desc := "()I" } : Jvm.MethodName) prog_1_method_18_code (1 : Nat) (Option.some Jvm.ClassFile.FieldType.int)) ∈ Tg := tg_4 (List.mem_of_getElem? (i := 169) rfl) rfl
theorem m890 : (Jvm.Cond.methodLink "PathTiming" (188 : Nat) ({ cls := "PathTiming$Slacks", name := "leastPeriodKept", desc := "()I" } : Jvm.MethodName)) ∈ Tg := tg_4 (List.mem_of_getElem? (i := 170) rfl) rfl
theorem m891 : (Jvm.Cond.instanceMethod ({ cls := "PathTiming$Slacks", name := "leastPeriodKept", desc := "()I" } : Jvm.MethodName)) ∈ Tg := tg_4 (List.mem_of_getElem? (i := 171) rfl) rfl
theorem m892 : (Jvm.Cond.selects "PathTiming$Slacks" ({ cls := "PathTiming$Slacks", name := "leastPeriodKept", desc := "()I" } : Jvm.MethodName) ({ cls := "PathTiming$Slacks", name := "leastPeriodKept", desc := "()I" } : Jvm.MethodName)) ∈ Tg := tg_4 (List.mem_of_getElem? (i := 172) rfl) rfl
theorem m893 : (Jvm.Cond.code ({ cls := "PathTiming$Slacks", name := "leastPeriodKept", desc := "()I" } : Jvm.MethodName) prog_8_method_7_code (2 : Nat) (Option.some Jvm.ClassFile.FieldType.int)) ∈ Tg := tg_4 (List.mem_of_getElem? (i := 173) rfl) rfl
theorem m894 : (Jvm.Cond.constant "PathTiming$Slacks" (87 : Nat) (1000000 : Int32)) ∈ Tg := tg_4 (List.mem_of_getElem? (i := 174) rfl) rfl
theorem m895 : (Jvm.Cond.methodLink "PathTimingLaw" (146 : Nat) ({ cls := "PathTimingLaw", name := "paths", desc := "(LPathTiming;[J)I" } : Jvm.MethodName)) ∈ Tg := tg_4 (List.mem_of_getElem? (i := 175) rfl) rfl
theorem m896 : (Jvm.Cond.static ({ cls := "PathTimingLaw", name := "paths", desc := "(LPathTiming;[J)I" } : Jvm.MethodName)) ∈ Tg := tg_4 (List.mem_of_getElem? (i := 176) rfl) rfl
theorem m897 : (Jvm.Cond.codeWith ({ cls := "PathTimingLaw", name := "paths", desc := "(LPathTiming;[J)I" } : Jvm.MethodName) method_16_code (3 : Nat) (Option.some Jvm.ClassFile.FieldType.int) [((0 : Nat), (8 : Nat), (11 : Nat), (41 : Nat))]) ∈ Tg := tg_4 (List.mem_of_getElem? (i := 177) rfl) rfl
theorem m898 : (Jvm.Cond.methodLink "PathTimingLaw" (61 : Nat) ({ cls := "PathTiming", name := "paths", desc := "()I" } : Jvm.MethodName)) ∈ Tg := tg_4 (List.mem_of_getElem? (i := 178) rfl) rfl
theorem m899 : (Jvm.Cond.instanceMethod ({ cls := "PathTiming", name := "paths", desc := "()I" } : Jvm.MethodName)) ∈ Tg := tg_4 (List.mem_of_getElem? (i := 179) rfl) rfl
theorem m900 : (Jvm.Cond.selects "PathTiming" ({ cls := "PathTiming", name := "paths", desc := "()I" } : Jvm.MethodName) ({ cls := "PathTiming", name := "paths", desc := "()I" } : Jvm.MethodName)) ∈ Tg := tg_4 (List.mem_of_getElem? (i := 180) rfl) rfl
theorem m901 : (Jvm.Cond.code ({ cls := "PathTiming", name := "paths", desc := "()I" } : Jvm.MethodName) prog_1_method_19_code (1 : Nat) (Option.some Jvm.ClassFile.FieldType.int)) ∈ Tg := tg_4 (List.mem_of_getElem? (i := 181) rfl) rfl
theorem m902 : (Jvm.Cond.methodLink "PathTimingLaw" (149 : Nat) ({ cls := "PathTimingLaw", name := "path", desc := "(LPathTiming;II[J)I" } : Jvm.MethodName)) ∈ Tg := tg_4 (List.mem_of_getElem? (i := 182) rfl) rfl
theorem m903 : (Jvm.Cond.static ({ cls := "PathTimingLaw", name := "path", desc := "(LPathTiming;II[J)I" } : Jvm.MethodName)) ∈ Tg := tg_4 (List.mem_of_getElem? (i := 183) rfl) rfl
theorem m904 : (Jvm.Cond.codeWith ({ cls := "PathTimingLaw", name := "path", desc := "(LPathTiming;II[J)I" } : Jvm.MethodName) method_17_code (5 : Nat) (Option.some Jvm.ClassFile.FieldType.int) [((0 : Nat), (10 : Nat), (13 : Nat), (41 : Nat)), ((0 : Nat), (10 : Nat), (17 : Nat), (13 : Nat)), ((0 : Nat), (10 : Nat), (21 : Nat), (67 : Nat))]) ∈ Tg := tg_4 (List.mem_of_getElem? (i := 184) rfl) rfl
theorem m905 : (Jvm.Cond.classLink "PathTimingLaw" (67 : Nat) "java/lang/IndexOutOfBoundsException") ∈ Tg := tg_4 (List.mem_of_getElem? (i := 185) rfl) rfl
theorem m906 : (Jvm.Cond.methodLink "PathTimingLaw" (64 : Nat) ({ cls := "PathTiming", name := "path", desc := "(II)I" } : Jvm.MethodName)) ∈ Tg := tg_4 (List.mem_of_getElem? (i := 186) rfl) rfl
theorem m907 : (Jvm.Cond.instanceMethod ({ cls := "PathTiming", name := "path", desc := "(II)I" } : Jvm.MethodName)) ∈ Tg := tg_4 (List.mem_of_getElem? (i := 187) rfl) rfl
theorem m908 : (Jvm.Cond.selects "PathTiming" ({ cls := "PathTiming", name := "path", desc := "(II)I" } : Jvm.MethodName) ({ cls := "PathTiming", name := "path", desc := "(II)I" } : Jvm.MethodName)) ∈ Tg := tg_4 (List.mem_of_getElem? (i := 188) rfl) rfl
theorem m909 : (Jvm.Cond.code ({ cls := "PathTiming", name := "path", desc := "(II)I" } : Jvm.MethodName) prog_1_method_20_code (3 : Nat) (Option.some Jvm.ClassFile.FieldType.int)) ∈ Tg := tg_4 (List.mem_of_getElem? (i := 189) rfl) rfl
theorem m910 : (Jvm.Cond.methodLink "PathTiming" (194 : Nat) ({ cls := "PathTiming", name := "needPath", desc := "(II)V" } : Jvm.MethodName)) ∈ Tg := tg_4 (List.mem_of_getElem? (i := 190) rfl) rfl
theorem m912 : (Jvm.Cond.instanceMethod ({ cls := "PathTiming", name := "needPath", desc := "(II)V" } : Jvm.MethodName)) ∈ Tg := tg_4 (List.mem_of_getElem? (i := 192) rfl) rfl
theorem m913 : (Jvm.Cond.code ({ cls := "PathTiming", name := "needPath", desc := "(II)V" } : Jvm.MethodName) prog_1_method_24_code (3 : Nat) (Option.none : Option Jvm.ClassFile.FieldType)) ∈ Tg := tg_4 (List.mem_of_getElem? (i := 193) rfl) rfl
theorem m914 : (Jvm.Cond.methodLink "PathTiming" (222 : Nat) ({ cls := "java/lang/Math", name := "min", desc := "(II)I" } : Jvm.MethodName)) ∈ Tg := tg_4 (List.mem_of_getElem? (i := 194) rfl) rfl
theorem m915 : (Jvm.Cond.classLink "PathTiming" (227 : Nat) "java/lang/IndexOutOfBoundsException") ∈ Tg := tg_4 (List.mem_of_getElem? (i := 195) rfl) rfl
theorem m916 : (Jvm.Cond.instantiable "java/lang/IndexOutOfBoundsException" (6 : Nat)) ∈ Tg := tg_4 (List.mem_of_getElem? (i := 196) rfl) rfl
theorem m918 : (Jvm.Cond.selects "java/lang/IndexOutOfBoundsException" ({ cls := "java/lang/Throwable", name := "fillInStackTrace", desc := "(I)Ljava/lang/Throwable;" } : Jvm.MethodName) ({ cls := "java/lang/Throwable", name := "fillInStackTrace", desc := "(I)Ljava/lang/Throwable;" } : Jvm.MethodName)) ∈ Tg := tg_4 (List.mem_of_getElem? (i := 198) rfl) rfl
theorem m919 : (Jvm.Cond.lays "java/lang/IndexOutOfBoundsException" "java/lang/Throwable" "cause" "Ljava/lang/Throwable;") ∈ Tg := tg_4 (List.mem_of_getElem? (i := 199) rfl) rfl
theorem m920 : (Jvm.Cond.lays "java/lang/IndexOutOfBoundsException" "java/lang/Throwable" "stackTrace" "[Ljava/lang/StackTraceElement;") ∈ Tg := tg_4 (List.mem_of_getElem? (i := 200) rfl) rfl
theorem m921 : (Jvm.Cond.lays "java/lang/IndexOutOfBoundsException" "java/lang/Throwable" "suppressedExceptions" "Ljava/util/List;") ∈ Tg := tg_4 (List.mem_of_getElem? (i := 201) rfl) rfl
theorem m922 : (Jvm.Cond.lays "java/lang/IndexOutOfBoundsException" "java/lang/Throwable" "detailMessage" "Ljava/lang/String;") ∈ Tg := tg_4 (List.mem_of_getElem? (i := 202) rfl) rfl
theorem m923 : (Jvm.Cond.lays "java/lang/IndexOutOfBoundsException" "java/lang/Throwable" "backtrace" "Ljava/lang/Object;") ∈ Tg := tg_4 (List.mem_of_getElem? (i := 203) rfl) rfl
theorem m924 : (Jvm.Cond.methodLink "PathTiming" (229 : Nat) ({ cls := "java/lang/IndexOutOfBoundsException", name := "<init>", desc := "()V" } : Jvm.MethodName)) ∈ Tg := tg_4 (List.mem_of_getElem? (i := 204) rfl) rfl
theorem m925 : (Jvm.Cond.instanceMethod ({ cls := "java/lang/IndexOutOfBoundsException", name := "<init>", desc := "()V" } : Jvm.MethodName)) ∈ Tg := tg_4 (List.mem_of_getElem? (i := 205) rfl) rfl
theorem m926 : (Jvm.Cond.code ({ cls := "java/lang/IndexOutOfBoundsException", name := "<init>", desc := "()V" } : Jvm.MethodName) prog_16_method_1_code (1 : Nat) (Option.none : Option Jvm.ClassFile.FieldType)) ∈ Tg := tg_4 (List.mem_of_getElem? (i := 206) rfl) rfl
theorem m927 : (Jvm.Cond.methodLink "java/lang/IndexOutOfBoundsException" (1 : Nat) ({ cls := "java/lang/RuntimeException", name := "<init>", desc := "()V" } : Jvm.MethodName)) ∈ Tg := tg_4 (List.mem_of_getElem? (i := 207) rfl) rfl
theorem m928 : (Jvm.Cond.lays "java/lang/IndexOutOfBoundsException" "java/lang/Throwable" "depth" "I") ∈ Tg := tg_4 (List.mem_of_getElem? (i := 208) rfl) rfl
theorem m929 : (Jvm.Cond.superclass "java/lang/IndexOutOfBoundsException" "java/lang/RuntimeException") ∈ Tg := tg_4 (List.mem_of_getElem? (i := 209) rfl) rfl
theorem m930 : (Jvm.Cond.methodLink "PathTiming" (198 : Nat) ({ cls := "PathTiming$WorstPaths", name := "collect", desc := "()V" } : Jvm.MethodName)) ∈ Tg := tg_4 (List.mem_of_getElem? (i := 210) rfl) rfl
theorem m931 : (Jvm.Cond.instanceMethod ({ cls := "PathTiming$WorstPaths", name := "collect", desc := "()V" } : Jvm.MethodName)) ∈ Tg := tg_4 (List.mem_of_getElem? (i := 211) rfl) rfl
theorem m932 : (Jvm.Cond.selects "PathTiming$WorstPaths" ({ cls := "PathTiming$WorstPaths", name := "collect", desc := "()V" } : Jvm.MethodName) ({ cls := "PathTiming$WorstPaths", name := "collect", desc := "()V" } : Jvm.MethodName)) ∈ Tg := tg_4 (List.mem_of_getElem? (i := 212) rfl) rfl
theorem m933 : (Jvm.Cond.code ({ cls := "PathTiming$WorstPaths", name := "collect", desc := "()V" } : Jvm.MethodName) prog_10_method_4_code (3 : Nat) (Option.none : Option Jvm.ClassFile.FieldType)) ∈ Tg := tg_4 (List.mem_of_getElem? (i := 213) rfl) rfl
theorem m934 : (Jvm.Cond.methodLink "PathTiming$WorstPaths" (55 : Nat) ({ cls := "PathTiming$ClockWays", name := "begins", desc := "(I)Z" } : Jvm.MethodName)) ∈ Tg := tg_4 (List.mem_of_getElem? (i := 214) rfl) rfl
theorem m935 : (Jvm.Cond.methodLink "PathTiming$WorstPaths" (67 : Nat) ({ cls := "PathTiming$Spread", name := "spreadFrom", desc := "(II)V" } : Jvm.MethodName)) ∈ Tg := tg_4 (List.mem_of_getElem? (i := 215) rfl) rfl
theorem m936 : (Jvm.Cond.methodLink "PathTiming$WorstPaths" (73 : Nat) ({ cls := "PathTiming$WorstPaths", name := "collectTo", desc := "(I)V" } : Jvm.MethodName)) ∈ Tg := tg_4 (List.mem_of_getElem? (i := 216) rfl) rfl
theorem m938 : (Jvm.Cond.instanceMethod ({ cls := "PathTiming$WorstPaths", name := "collectTo", desc := "(I)V" } : Jvm.MethodName)) ∈ Tg := tg_4 (List.mem_of_getElem? (i := 218) rfl) rfl
theorem m939 : (Jvm.Cond.code ({ cls := "PathTiming$WorstPaths", name := "collectTo", desc := "(I)V" } : Jvm.MethodName) prog_10_method_5_code (5 : Nat) (Option.none : Option Jvm.ClassFile.FieldType)) ∈ Tg := tg_4 (List.mem_of_getElem? (i := 219) rfl) rfl
theorem m940 : (Jvm.Cond.methodLink "PathTiming$WorstPaths" (77 : Nat) ({ cls := "PathTiming$ClockWays", name := "ends", desc := "(I)Z" } : Jvm.MethodName)) ∈ Tg := tg_4 (List.mem_of_getElem? (i := 220) rfl) rfl
theorem m941 : (Jvm.Cond.methodLink "PathTiming$WorstPaths" (83 : Nat) ({ cls := "PathTiming$Spread", name := "reaches", desc := "(I)Z" } : Jvm.MethodName)) ∈ Tg := tg_4 (List.mem_of_getElem? (i := 221) rfl) rfl
theorem m942 : (Jvm.Cond.instanceMethod ({ cls := "PathTiming$Spread", name := "reaches", desc := "(I)Z" } : Jvm.MethodName)) ∈ Tg := tg_4 (List.mem_of_getElem? (i := 222) rfl) rfl
theorem m943 : (Jvm.Cond.selects "PathTiming$Spread" ({ cls := "PathTiming$Spread", name := "reaches", desc := "(I)Z" } : Jvm.MethodName) ({ cls := "PathTiming$Spread", name := "reaches", desc := "(I)Z" } : Jvm.MethodName)) ∈ Tg := tg_4 (List.mem_of_getElem? (i := 223) rfl) rfl
theorem m944 : (Jvm.Cond.code ({ cls := "PathTiming$Spread", name := "reaches", desc := "(I)Z" } : Jvm.MethodName) prog_9_method_3_code (2 : Nat) (Option.some Jvm.ClassFile.FieldType.boolean)) ∈ Tg := tg_4 (List.mem_of_getElem? (i := 224) rfl) rfl
theorem m945 : (Jvm.Cond.methodLink "PathTiming$WorstPaths" (89 : Nat) ({ cls := "PathTiming$Rooms", name := "measure", desc := "(II)V" } : Jvm.MethodName)) ∈ Tg := tg_4 (List.mem_of_getElem? (i := 225) rfl) rfl
theorem m946 : (Jvm.Cond.methodLink "PathTiming$WorstPaths" (104 : Nat) ({ cls := "PathTiming$WorstPaths", name := "goBack", desc := "(IIII)V" } : Jvm.MethodName)) ∈ Tg := tg_4 (List.mem_of_getElem? (i := 226) rfl) rfl
theorem m948 : (Jvm.Cond.instanceMethod ({ cls := "PathTiming$WorstPaths", name := "goBack", desc := "(IIII)V" } : Jvm.MethodName)) ∈ Tg := tg_4 (List.mem_of_getElem? (i := 228) rfl) rfl
theorem m949 : (Jvm.Cond.code ({ cls := "PathTiming$WorstPaths", name := "goBack", desc := "(IIII)V" } : Jvm.MethodName) prog_10_method_6_code (10 : Nat) (Option.none : Option Jvm.ClassFile.FieldType)) ∈ Tg := tg_4 (List.mem_of_getElem? (i := 229) rfl) rfl
theorem m950 : (Jvm.Cond.methodLink "PathTiming$WorstPaths" (114 : Nat) ({ cls := "PathTiming$WorstPaths", name := "offerAll", desc := "(IIII)V" } : Jvm.MethodName)) ∈ Tg := tg_4 (List.mem_of_getElem? (i := 230) rfl) rfl
theorem m952 : (Jvm.Cond.instanceMethod ({ cls := "PathTiming$WorstPaths", name := "offerAll", desc := "(IIII)V" } : Jvm.MethodName)) ∈ Tg := tg_4 (List.mem_of_getElem? (i := 232) rfl) rfl
theorem m953 : (Jvm.Cond.code ({ cls := "PathTiming$WorstPaths", name := "offerAll", desc := "(IIII)V" } : Jvm.MethodName) prog_10_method_8_code (13 : Nat) (Option.none : Option Jvm.ClassFile.FieldType)) ∈ Tg := tg_4 (List.mem_of_getElem? (i := 233) rfl) rfl
theorem m954 : (Jvm.Cond.methodLink "PathTiming$WorstPaths" (150 : Nat) ({ cls := "PathTiming$PathList", name := "mayTake", desc := "(I)Z" } : Jvm.MethodName)) ∈ Tg := tg_4 (List.mem_of_getElem? (i := 234) rfl) rfl
theorem m955 : (Jvm.Cond.instanceMethod ({ cls := "PathTiming$PathList", name := "mayTake", desc := "(I)Z" } : Jvm.MethodName)) ∈ Tg := tg_4 (List.mem_of_getElem? (i := 235) rfl) rfl
theorem m956 : (Jvm.Cond.selects "PathTiming$PathList" ({ cls := "PathTiming$PathList", name := "mayTake", desc := "(I)Z" } : Jvm.MethodName) ({ cls := "PathTiming$PathList", name := "mayTake", desc := "(I)Z" } : Jvm.MethodName)) ∈ Tg := tg_4 (List.mem_of_getElem? (i := 236) rfl) rfl
theorem m957 : (Jvm.Cond.code ({ cls := "PathTiming$PathList", name := "mayTake", desc := "(I)Z" } : Jvm.MethodName) prog_6_method_4_code (2 : Nat) (Option.some Jvm.ClassFile.FieldType.boolean)) ∈ Tg := tg_4 (List.mem_of_getElem? (i := 237) rfl) rfl
theorem m958 : (Jvm.Cond.methodLink "PathTiming$WorstPaths" (153 : Nat) ({ cls := "PathTiming$WorstPaths", name := "writeRow", desc := "(IIII)I" } : Jvm.MethodName)) ∈ Tg := tg_4 (List.mem_of_getElem? (i := 238) rfl) rfl
theorem m960 : (Jvm.Cond.instanceMethod ({ cls := "PathTiming$WorstPaths", name := "writeRow", desc := "(IIII)I" } : Jvm.MethodName)) ∈ Tg := tg_5 (List.mem_of_getElem? (i := 0) rfl) rfl
theorem m961 : (Jvm.Cond.code ({ cls := "PathTiming$WorstPaths", name := "writeRow", desc := "(IIII)I" } : Jvm.MethodName) prog_10_method_9_code (7 : Nat) (Option.some Jvm.ClassFile.FieldType.int)) ∈ Tg := tg_5 (List.mem_of_getElem? (i := 1) rfl) rfl
theorem m962 : (Jvm.Cond.methodLink "PathTiming$WorstPaths" (161 : Nat) ({ cls := "PathTiming$ClockWays", name := "write", desc := "(II[II)I" } : Jvm.MethodName)) ∈ Tg := tg_5 (List.mem_of_getElem? (i := 2) rfl) rfl
theorem m963 : (Jvm.Cond.instanceMethod ({ cls := "PathTiming$ClockWays", name := "write", desc := "(II[II)I" } : Jvm.MethodName)) ∈ Tg := tg_5 (List.mem_of_getElem? (i := 3) rfl) rfl
theorem m964 : (Jvm.Cond.selects "PathTiming$ClockWays" ({ cls := "PathTiming$ClockWays", name := "write", desc := "(II[II)I" } : Jvm.MethodName) ({ cls := "PathTiming$ClockWays", name := "write", desc := "(II[II)I" } : Jvm.MethodName)) ∈ Tg := tg_5 (List.mem_of_getElem? (i := 4) rfl) rfl
theorem m965 : (Jvm.Cond.code ({ cls := "PathTiming$ClockWays", name := "write", desc := "(II[II)I" } : Jvm.MethodName) prog_3_method_6_code (8 : Nat) (Option.some Jvm.ClassFile.FieldType.int)) ∈ Tg := tg_5 (List.mem_of_getElem? (i := 5) rfl) rfl
theorem m967 : (Jvm.Cond.methodLink "PathTiming$WorstPaths" (157 : Nat) ({ cls := "PathTiming$PathList", name := "offer", desc := "(I[II)V" } : Jvm.MethodName)) ∈ Tg := tg_5 (List.mem_of_getElem? (i := 7) rfl) rfl
theorem m968 : (Jvm.Cond.instanceMethod ({ cls := "PathTiming$PathList", name := "offer", desc := "(I[II)V" } : Jvm.MethodName)) ∈ Tg := tg_5 (List.mem_of_getElem? (i := 8) rfl) rfl
theorem m969 : (Jvm.Cond.selects "PathTiming$PathList" ({ cls := "PathTiming$PathList", name := "offer", desc := "(I[II)V" } : Jvm.MethodName) ({ cls := "PathTiming$PathList", name := "offer", desc := "(I[II)V" } : Jvm.MethodName)) ∈ Tg := tg_5 (List.mem_of_getElem? (i := 9) rfl) rfl
theorem m970 : (Jvm.Cond.code ({ cls := "PathTiming$PathList", name := "offer", desc := "(I[II)V" } : Jvm.MethodName) prog_6_method_5_code (7 : Nat) (Option.none : Option Jvm.ClassFile.FieldType)) ∈ Tg := tg_5 (List.mem_of_getElem? (i := 10) rfl) rfl
theorem m971 : (Jvm.Cond.methodLink "PathTiming$PathList" (29 : Nat) ({ cls := "PathTiming$PathList", name := "comesBefore", desc := "(I[III)Z" } : Jvm.MethodName)) ∈ Tg := tg_5 (List.mem_of_getElem? (i := 11) rfl) rfl
theorem m973 : (Jvm.Cond.instanceMethod ({ cls := "PathTiming$PathList", name := "comesBefore", desc := "(I[III)Z" } : Jvm.MethodName)) ∈ Tg := tg_5 (List.mem_of_getElem? (i := 13) rfl) rfl
theorem m974 : (Jvm.Cond.code ({ cls := "PathTiming$PathList", name := "comesBefore", desc := "(I[III)Z" } : Jvm.MethodName) prog_6_method_7_code (8 : Nat) (Option.some Jvm.ClassFile.FieldType.boolean)) ∈ Tg := tg_5 (List.mem_of_getElem? (i := 14) rfl) rfl
theorem m975 : (Jvm.Cond.methodLink "PathTiming$PathList" (43 : Nat) ({ cls := "java/lang/Math", name := "min", desc := "(II)I" } : Jvm.MethodName)) ∈ Tg := tg_5 (List.mem_of_getElem? (i := 15) rfl) rfl
theorem m976 : (Jvm.Cond.methodLink "PathTiming$PathList" (33 : Nat) ({ cls := "PathTiming$PathList", name := "takeSlot", desc := "()I" } : Jvm.MethodName)) ∈ Tg := tg_5 (List.mem_of_getElem? (i := 16) rfl) rfl
theorem m978 : (Jvm.Cond.instanceMethod ({ cls := "PathTiming$PathList", name := "takeSlot", desc := "()I" } : Jvm.MethodName)) ∈ Tg := tg_5 (List.mem_of_getElem? (i := 18) rfl) rfl
theorem m979 : (Jvm.Cond.code ({ cls := "PathTiming$PathList", name := "takeSlot", desc := "()I" } : Jvm.MethodName) prog_6_method_6_code (1 : Nat) (Option.some Jvm.ClassFile.FieldType.int)) ∈ Tg := tg_5 (List.mem_of_getElem? (i := 19) rfl) rfl
theorem m980 : (Jvm.Cond.methodLink "PathTiming$PathList" (37 : Nat) ({ cls := "java/lang/System", name := "arraycopy", desc := "(Ljava/lang/Object;ILjava/lang/Object;II)V" } : Jvm.MethodName)) ∈ Tg := tg_5 (List.mem_of_getElem? (i := 20) rfl) rfl
theorem m981 : (Jvm.Cond.static ({ cls := "java/lang/System", name := "arraycopy", desc := "(Ljava/lang/Object;ILjava/lang/Object;II)V" } : Jvm.MethodName)) ∈ Tg := tg_5 (List.mem_of_getElem? (i := 21) rfl) rfl
theorem m982 : (Jvm.Cond.native ({ cls := "java/lang/System", name := "arraycopy", desc := "(Ljava/lang/Object;ILjava/lang/Object;II)V" } : Jvm.MethodName)) ∈ Tg := tg_5 (List.mem_of_getElem? (i := 22) rfl) rfl
theorem m983 : (Jvm.Cond.methodLink "PathTiming$WorstPaths" (124 : Nat) ({ cls := "PathTiming$WorstPaths", name := "leads", desc := "(III)Z" } : Jvm.MethodName)) ∈ Tg := tg_5 (List.mem_of_getElem? (i := 23) rfl) rfl
theorem m985 : (Jvm.Cond.instanceMethod ({ cls := "PathTiming$WorstPaths", name := "leads", desc := "(III)Z" } : Jvm.MethodName)) ∈ Tg := tg_5 (List.mem_of_getElem? (i := 25) rfl) rfl
theorem m986 : (Jvm.Cond.code ({ cls := "PathTiming$WorstPaths", name := "leads", desc := "(III)Z" } : Jvm.MethodName) prog_10_method_7_code (5 : Nat) (Option.some Jvm.ClassFile.FieldType.boolean)) ∈ Tg := tg_5 (List.mem_of_getElem? (i := 26) rfl) rfl
theorem m987 : (Jvm.Cond.methodLink "PathTiming$WorstPaths" (135 : Nat) ({ cls := "PathTiming$Net", name := "lets", desc := "(III)Z" } : Jvm.MethodName)) ∈ Tg := tg_5 (List.mem_of_getElem? (i := 27) rfl) rfl
theorem m988 : (Jvm.Cond.methodLink "PathTiming$WorstPaths" (128 : Nat) ({ cls := "PathTiming$Net", name := "stepEarly", desc := "(II)I" } : Jvm.MethodName)) ∈ Tg := tg_5 (List.mem_of_getElem? (i := 28) rfl) rfl
theorem m989 : (Jvm.Cond.methodLink "PathTiming$WorstPaths" (132 : Nat) ({ cls := "PathTiming$Net", name := "stepLate", desc := "(II)I" } : Jvm.MethodName)) ∈ Tg := tg_5 (List.mem_of_getElem? (i := 29) rfl) rfl
theorem m990 : (Jvm.Cond.methodLink "PathTiming" (201 : Nat) ({ cls := "PathTiming$WorstPaths", name := "listOf", desc := "(I)LPathTiming$PathList;" } : Jvm.MethodName)) ∈ Tg := tg_5 (List.mem_of_getElem? (i := 30) rfl) rfl
theorem m991 : (Jvm.Cond.instanceMethod ({ cls := "PathTiming$WorstPaths", name := "listOf", desc := "(I)LPathTiming$PathList;" } : Jvm.MethodName)) ∈ Tg := tg_5 (List.mem_of_getElem? (i := 31) rfl) rfl
theorem m992 : (Jvm.Cond.selects "PathTiming$WorstPaths" ({ cls := "PathTiming$WorstPaths", name := "listOf", desc := "(I)LPathTiming$PathList;" } : Jvm.MethodName) ({ cls := "PathTiming$WorstPaths", name := "listOf", desc := "(I)LPathTiming$PathList;" } : Jvm.MethodName)) ∈ Tg := tg_5 (List.mem_of_getElem? (i := 32) rfl) rfl
theorem m993 : (Jvm.Cond.code ({ cls := "PathTiming$WorstPaths", name := "listOf", desc := "(I)LPathTiming$PathList;" } : Jvm.MethodName) prog_10_method_2_code (2 : Nat) (Option.some (Jvm.ClassFile.FieldType.object "PathTiming$PathList"))) ∈ Tg := tg_5 (List.mem_of_getElem? (i := 33) rfl) rfl
theorem m994 : (Jvm.Cond.methodLink "PathTiming" (205 : Nat) ({ cls := "PathTiming$PathList", name := "slackOf", desc := "(I)I" } : Jvm.MethodName)) ∈ Tg := tg_5 (List.mem_of_getElem? (i := 34) rfl) rfl
theorem m995 : (Jvm.Cond.instanceMethod ({ cls := "PathTiming$PathList", name := "slackOf", desc := "(I)I" } : Jvm.MethodName)) ∈ Tg := tg_5 (List.mem_of_getElem? (i := 35) rfl) rfl
theorem m996 : (Jvm.Cond.selects "PathTiming$PathList" ({ cls := "PathTiming$PathList", name := "slackOf", desc := "(I)I" } : Jvm.MethodName) ({ cls := "PathTiming$PathList", name := "slackOf", desc := "(I)I" } : Jvm.MethodName)) ∈ Tg := tg_5 (List.mem_of_getElem? (i := 36) rfl) rfl
theorem m997 : (Jvm.Cond.code ({ cls := "PathTiming$PathList", name := "slackOf", desc := "(I)I" } : Jvm.MethodName) prog_6_method_2_code (2 : Nat) (Option.some Jvm.ClassFile.FieldType.int)) ∈ Tg := tg_5 (List.mem_of_getElem? (i := 37) rfl) rfl
theorem m998 : (Jvm.Cond.constant "PathTiming$PathList" (28 : Nat) (-2147483648 : Int32)) ∈ Tg := tg_5 (List.mem_of_getElem? (i := 38) rfl) rfl
theorem m999 : (Jvm.Cond.methodLink "PathTimingLaw" (152 : Nat) ({ cls := "PathTimingLaw", name := "element", desc := "(LPathTiming;III[J)I" } : Jvm.MethodName)) ∈ Tg := tg_5 (List.mem_of_getElem? (i := 39) rfl) rfl
theorem m1000 : (Jvm.Cond.static ({ cls := "PathTimingLaw", name := "element", desc := "(LPathTiming;III[J)I" } : Jvm.MethodName)) ∈ Tg := tg_5 (List.mem_of_getElem? (i := 40) rfl) rfl
theorem m1001 : (Jvm.Cond.codeWith ({ cls := "PathTimingLaw", name := "element", desc := "(LPathTiming;III[J)I" } : Jvm.MethodName) method_18_code (6 : Nat) (Option.some Jvm.ClassFile.FieldType.int) [((0 : Nat), (12 : Nat), (15 : Nat), (41 : Nat)), ((0 : Nat), (12 : Nat), (19 : Nat), (13 : Nat)), ((0 : Nat), (12 : Nat), (23 : Nat), (67 : Nat))]) ∈ Tg := tg_5 (List.mem_of_getElem? (i := 41) rfl) rfl
theorem m1002 : (Jvm.Cond.methodLink "PathTimingLaw" (69 : Nat) ({ cls := "PathTiming", name := "element", desc := "(III)I" } : Jvm.MethodName)) ∈ Tg := tg_5 (List.mem_of_getElem? (i := 42) rfl) rfl
theorem m1003 : (Jvm.Cond.instanceMethod ({ cls := "PathTiming", name := "element", desc := "(III)I" } : Jvm.MethodName)) ∈ Tg := tg_5 (List.mem_of_getElem? (i := 43) rfl) rfl
theorem m1004 : (Jvm.Cond.selects "PathTiming" ({ cls := "PathTiming", name := "element", desc := "(III)I" } : Jvm.MethodName) ({ cls := "PathTiming", name := "element", desc := "(III)I" } : Jvm.MethodName)) ∈ Tg := tg_5 (List.mem_of_getElem? (i := 44) rfl) rfl
theorem m1005 : (Jvm.Cond.code ({ cls := "PathTiming", name := "element", desc := "(III)I" } : Jvm.MethodName) prog_1_method_21_code (4 : Nat) (Option.some Jvm.ClassFile.FieldType.int)) ∈ Tg := tg_5 (List.mem_of_getElem? (i := 45) rfl) rfl
theorem m1006 : (Jvm.Cond.methodLink "PathTiming" (210 : Nat) ({ cls := "PathTiming$PathList", name := "elementAt", desc := "(II)I" } : Jvm.MethodName)) ∈ Tg := tg_5 (List.mem_of_getElem? (i := 46) rfl) rfl
theorem m1007 : (Jvm.Cond.instanceMethod ({ cls := "PathTiming$PathList", name := "elementAt", desc := "(II)I" } : Jvm.MethodName)) ∈ Tg := tg_5 (List.mem_of_getElem? (i := 47) rfl) rfl
theorem m1008 : (Jvm.Cond.selects "PathTiming$PathList" ({ cls := "PathTiming$PathList", name := "elementAt", desc := "(II)I" } : Jvm.MethodName) ({ cls := "PathTiming$PathList", name := "elementAt", desc := "(II)I" } : Jvm.MethodName)) ∈ Tg := tg_5 (List.mem_of_getElem? (i := 48) rfl) rfl
theorem m1009 : (Jvm.Cond.code ({ cls := "PathTiming$PathList", name := "elementAt", desc := "(II)I" } : Jvm.MethodName) prog_6_method_3_code (3 : Nat) (Option.some Jvm.ClassFile.FieldType.int)) ∈ Tg := tg_5 (List.mem_of_getElem? (i := 49) rfl) rfl
theorem m1010 : (Jvm.Cond.classLink "PathTimingLaw" (74 : Nat) "PathTimingModel") ∈ Tg := tg_5 (List.mem_of_getElem? (i := 50) rfl) rfl
theorem m1011 : (Jvm.Cond.instantiable "PathTimingModel" (53 : Nat)) ∈ Tg := tg_5 (List.mem_of_getElem? (i := 51) rfl) rfl
theorem m1012 : (Jvm.Cond.methodLink "PathTimingLaw" (76 : Nat) ({ cls := "PathTimingModel", name := "<init>", desc := "()V" } : Jvm.MethodName)) ∈ Tg := tg_5 (List.mem_of_getElem? (i := 52) rfl) rfl
theorem m1013 : (Jvm.Cond.instanceMethod ({ cls := "PathTimingModel", name := "<init>", desc := "()V" } : Jvm.MethodName)) ∈ Tg := tg_5 (List.mem_of_getElem? (i := 53) rfl) rfl
theorem m1014 : (Jvm.Cond.code ({ cls := "PathTimingModel", name := "<init>", desc := "()V" } : Jvm.MethodName) prog_12_method_1_code (1 : Nat) (Option.none : Option Jvm.ClassFile.FieldType)) ∈ Tg := tg_5 (List.mem_of_getElem? (i := 54) rfl) rfl
theorem m1015 : (Jvm.Cond.methodLink "PathTimingModel" (1 : Nat) ({ cls := "java/lang/Object", name := "<init>", desc := "()V" } : Jvm.MethodName)) ∈ Tg := tg_5 (List.mem_of_getElem? (i := 55) rfl) rfl
theorem m1016 : (Jvm.Cond.methodLink "PathTimingModel" (133 : Nat) ({ cls := "PathTimingModel", name := "clearNode", desc := "(III)V" } : Jvm.MethodName)) ∈ Tg := tg_5 (List.mem_of_getElem? (i := 56) rfl) rfl
theorem m1018 : (Jvm.Cond.instanceMethod ({ cls := "PathTimingModel", name := "clearNode", desc := "(III)V" } : Jvm.MethodName)) ∈ Tg := tg_5 (List.mem_of_getElem? (i := 58) rfl) rfl
theorem m1019 : (Jvm.Cond.code ({ cls := "PathTimingModel", name := "clearNode", desc := "(III)V" } : Jvm.MethodName) prog_12_method_3_code (6 : Nat) (Option.none : Option Jvm.ClassFile.FieldType)) ∈ Tg := tg_5 (List.mem_of_getElem? (i := 59) rfl) rfl
theorem m1020 : (Jvm.Cond.constant "PathTimingModel" (140 : Nat) (-2147483648 : Int32)) ∈ Tg := tg_5 (List.mem_of_getElem? (i := 60) rfl) rfl
theorem m1021 : (Jvm.Cond.fieldLink "PathTimingModel" (137 : Nat) "PathTimingModel" "thrown" "I") ∈ Tg := tg_5 (List.mem_of_getElem? (i := 61) rfl) rfl
theorem m1022 : (Jvm.Cond.fieldLink "PathTimingModel" (7 : Nat) "PathTimingModel" "period" "I") ∈ Tg := tg_5 (List.mem_of_getElem? (i := 62) rfl) rfl
theorem m1023 : (Jvm.Cond.fieldLink "PathTimingModel" (13 : Nat) "PathTimingModel" "width" "I") ∈ Tg := tg_5 (List.mem_of_getElem? (i := 63) rfl) rfl
theorem m1024 : (Jvm.Cond.fieldLink "PathTimingModel" (16 : Nat) "PathTimingModel" "nodes" "I") ∈ Tg := tg_5 (List.mem_of_getElem? (i := 64) rfl) rfl
theorem m1025 : (Jvm.Cond.fieldLink "PathTimingModel" (19 : Nat) "PathTimingModel" "kinds" "[I") ∈ Tg := tg_5 (List.mem_of_getElem? (i := 65) rfl) rfl
theorem m1026 : (Jvm.Cond.fieldLink "PathTimingModel" (23 : Nat) "PathTimingModel" "pins" "[I") ∈ Tg := tg_5 (List.mem_of_getElem? (i := 66) rfl) rfl
theorem m1027 : (Jvm.Cond.fieldLink "PathTimingModel" (26 : Nat) "PathTimingModel" "froms" "[I") ∈ Tg := tg_5 (List.mem_of_getElem? (i := 67) rfl) rfl
theorem m1028 : (Jvm.Cond.fieldLink "PathTimingModel" (29 : Nat) "PathTimingModel" "wireEarly" "[I") ∈ Tg := tg_5 (List.mem_of_getElem? (i := 68) rfl) rfl
theorem m1029 : (Jvm.Cond.fieldLink "PathTimingModel" (32 : Nat) "PathTimingModel" "wireLate" "[I") ∈ Tg := tg_5 (List.mem_of_getElem? (i := 69) rfl) rfl
theorem m1030 : (Jvm.Cond.fieldLink "PathTimingModel" (35 : Nat) "PathTimingModel" "senses" "[I") ∈ Tg := tg_5 (List.mem_of_getElem? (i := 70) rfl) rfl
theorem m1031 : (Jvm.Cond.fieldLink "PathTimingModel" (38 : Nat) "PathTimingModel" "delayEarly" "[I") ∈ Tg := tg_5 (List.mem_of_getElem? (i := 71) rfl) rfl
theorem m1032 : (Jvm.Cond.fieldLink "PathTimingModel" (41 : Nat) "PathTimingModel" "delayLate" "[I") ∈ Tg := tg_5 (List.mem_of_getElem? (i := 72) rfl) rfl
theorem m1033 : (Jvm.Cond.fieldLink "PathTimingModel" (44 : Nat) "PathTimingModel" "firstOf" "[I") ∈ Tg := tg_5 (List.mem_of_getElem? (i := 73) rfl) rfl
theorem m1034 : (Jvm.Cond.fieldLink "PathTimingModel" (47 : Nat) "PathTimingModel" "secondOf" "[I") ∈ Tg := tg_5 (List.mem_of_getElem? (i := 74) rfl) rfl
theorem m1035 : (Jvm.Cond.fieldLink "PathTimingModel" (141 : Nat) "PathTimingModel" "analysed" "Z") ∈ Tg := tg_5 (List.mem_of_getElem? (i := 75) rfl) rfl
theorem m1036 : (Jvm.Cond.fieldLink "PathTimingModel" (50 : Nat) "PathTimingModel" "order" "[I") ∈ Tg := tg_5 (List.mem_of_getElem? (i := 76) rfl) rfl
theorem m1037 : (Jvm.Cond.fieldLink "PathTimingModel" (169 : Nat) "PathTimingModel" "gates" "I") ∈ Tg := tg_5 (List.mem_of_getElem? (i := 77) rfl) rfl
theorem m1038 : (Jvm.Cond.fieldLink "PathTimingModel" (53 : Nat) "PathTimingModel" "wayCount" "[I") ∈ Tg := tg_5 (List.mem_of_getElem? (i := 78) rfl) rfl
theorem m1039 : (Jvm.Cond.fieldLink "PathTimingModel" (56 : Nat) "PathTimingModel" "wayBase" "[I") ∈ Tg := tg_5 (List.mem_of_getElem? (i := 79) rfl) rfl
theorem m1040 : (Jvm.Cond.fieldLink "PathTimingModel" (59 : Nat) "PathTimingModel" "wayEarly" "[I") ∈ Tg := tg_5 (List.mem_of_getElem? (i := 80) rfl) rfl
theorem m1041 : (Jvm.Cond.fieldLink "PathTimingModel" (62 : Nat) "PathTimingModel" "wayLate" "[I") ∈ Tg := tg_5 (List.mem_of_getElem? (i := 81) rfl) rfl
theorem m1042 : (Jvm.Cond.fieldLink "PathTimingModel" (65 : Nat) "PathTimingModel" "wayLast" "[I") ∈ Tg := tg_5 (List.mem_of_getElem? (i := 82) rfl) rfl
theorem m1043 : (Jvm.Cond.fieldLink "PathTimingModel" (68 : Nat) "PathTimingModel" "waySize" "[I") ∈ Tg := tg_5 (List.mem_of_getElem? (i := 83) rfl) rfl
theorem m1044 : (Jvm.Cond.fieldLink "PathTimingModel" (71 : Nat) "PathTimingModel" "wayRows" "[I") ∈ Tg := tg_5 (List.mem_of_getElem? (i := 84) rfl) rfl
theorem m1045 : (Jvm.Cond.fieldLink "PathTimingModel" (74 : Nat) "PathTimingModel" "waySpread" "[I") ∈ Tg := tg_5 (List.mem_of_getElem? (i := 85) rfl) rfl
theorem m1046 : (Jvm.Cond.fieldLink "PathTimingModel" (77 : Nat) "PathTimingModel" "clockWays" "[I") ∈ Tg := tg_5 (List.mem_of_getElem? (i := 86) rfl) rfl
theorem m1047 : (Jvm.Cond.fieldLink "PathTimingModel" (80 : Nat) "PathTimingModel" "there" "[Z") ∈ Tg := tg_5 (List.mem_of_getElem? (i := 87) rfl) rfl
theorem m1048 : (Jvm.Cond.fieldLink "PathTimingModel" (84 : Nat) "PathTimingModel" "early" "[I") ∈ Tg := tg_5 (List.mem_of_getElem? (i := 88) rfl) rfl
theorem m1049 : (Jvm.Cond.fieldLink "PathTimingModel" (87 : Nat) "PathTimingModel" "late" "[I") ∈ Tg := tg_5 (List.mem_of_getElem? (i := 89) rfl) rfl
theorem m1050 : (Jvm.Cond.fieldLink "PathTimingModel" (179 : Nat) "PathTimingModel" "startNode" "I") ∈ Tg := tg_5 (List.mem_of_getElem? (i := 90) rfl) rfl
theorem m1051 : (Jvm.Cond.fieldLink "PathTimingModel" (182 : Nat) "PathTimingModel" "startChange" "I") ∈ Tg := tg_5 (List.mem_of_getElem? (i := 91) rfl) rfl
theorem m1052 : (Jvm.Cond.fieldLink "PathTimingModel" (200 : Nat) "PathTimingModel" "startWay" "I") ∈ Tg := tg_5 (List.mem_of_getElem? (i := 92) rfl) rfl
theorem m1053 : (Jvm.Cond.fieldLink "PathTimingModel" (197 : Nat) "PathTimingModel" "startBase" "I") ∈ Tg := tg_5 (List.mem_of_getElem? (i := 93) rfl) rfl
theorem m1054 : (Jvm.Cond.fieldLink "PathTimingModel" (185 : Nat) "PathTimingModel" "startEarly" "I") ∈ Tg := tg_5 (List.mem_of_getElem? (i := 94) rfl) rfl
theorem m1055 : (Jvm.Cond.fieldLink "PathTimingModel" (188 : Nat) "PathTimingModel" "startLate" "I") ∈ Tg := tg_5 (List.mem_of_getElem? (i := 95) rfl) rfl
theorem m1056 : (Jvm.Cond.fieldLink "PathTimingModel" (90 : Nat) "PathTimingModel" "least" "[I") ∈ Tg := tg_5 (List.mem_of_getElem? (i := 96) rfl) rfl
theorem m1057 : (Jvm.Cond.fieldLink "PathTimingModel" (93 : Nat) "PathTimingModel" "greatest" "[I") ∈ Tg := tg_5 (List.mem_of_getElem? (i := 97) rfl) rfl
theorem m1058 : (Jvm.Cond.fieldLink "PathTimingModel" (96 : Nat) "PathTimingModel" "slacks" "[I") ∈ Tg := tg_5 (List.mem_of_getElem? (i := 98) rfl) rfl
theorem m1059 : (Jvm.Cond.fieldLink "PathTimingModel" (214 : Nat) "PathTimingModel" "worstWith" "I") ∈ Tg := tg_5 (List.mem_of_getElem? (i := 99) rfl) rfl
theorem m1060 : (Jvm.Cond.fieldLink "PathTimingModel" (217 : Nat) "PathTimingModel" "worstWithout" "I") ∈ Tg := tg_5 (List.mem_of_getElem? (i := 100) rfl) rfl
theorem m1061 : (Jvm.Cond.fieldLink "PathTimingModel" (99 : Nat) "PathTimingModel" "goals" "[J") ∈ Tg := tg_5 (List.mem_of_getElem? (i := 101) rfl) rfl
theorem m1062 : (Jvm.Cond.fieldLink "PathTimingModel" (237 : Nat) "PathTimingModel" "all" "J") ∈ Tg := tg_5 (List.mem_of_getElem? (i := 102) rfl) rfl
theorem m1063 : (Jvm.Cond.fieldLink "PathTimingModel" (103 : Nat) "PathTimingModel" "atNode" "[I") ∈ Tg := tg_5 (List.mem_of_getElem? (i := 103) rfl) rfl
theorem m1064 : (Jvm.Cond.fieldLink "PathTimingModel" (106 : Nat) "PathTimingModel" "atChange" "[I") ∈ Tg := tg_5 (List.mem_of_getElem? (i := 104) rfl) rfl
theorem m1065 : (Jvm.Cond.fieldLink "PathTimingModel" (109 : Nat) "PathTimingModel" "atNext" "[I") ∈ Tg := tg_5 (List.mem_of_getElem? (i := 105) rfl) rfl
theorem m1066 : (Jvm.Cond.fieldLink "PathTimingModel" (112 : Nat) "PathTimingModel" "atEarly" "[I") ∈ Tg := tg_5 (List.mem_of_getElem? (i := 106) rfl) rfl
theorem m1067 : (Jvm.Cond.fieldLink "PathTimingModel" (115 : Nat) "PathTimingModel" "atLate" "[I") ∈ Tg := tg_5 (List.mem_of_getElem? (i := 107) rfl) rfl
theorem m1068 : (Jvm.Cond.fieldLink "PathTimingModel" (118 : Nat) "PathTimingModel" "row" "[I") ∈ Tg := tg_5 (List.mem_of_getElem? (i := 108) rfl) rfl
theorem m1069 : (Jvm.Cond.fieldLink "PathTimingModel" (244 : Nat) "PathTimingModel" "rowSize" "I") ∈ Tg := tg_5 (List.mem_of_getElem? (i := 109) rfl) rfl
theorem m1070 : (Jvm.Cond.fieldLink "PathTimingModel" (121 : Nat) "PathTimingModel" "listed" "[I") ∈ Tg := tg_5 (List.mem_of_getElem? (i := 110) rfl) rfl
theorem m1071 : (Jvm.Cond.fieldLink "PathTimingModel" (124 : Nat) "PathTimingModel" "listSlack" "[I") ∈ Tg := tg_5 (List.mem_of_getElem? (i := 111) rfl) rfl
theorem m1072 : (Jvm.Cond.fieldLink "PathTimingModel" (127 : Nat) "PathTimingModel" "listSize" "[I") ∈ Tg := tg_5 (List.mem_of_getElem? (i := 112) rfl) rfl
theorem m1073 : (Jvm.Cond.fieldLink "PathTimingModel" (130 : Nat) "PathTimingModel" "listRows" "[I") ∈ Tg := tg_5 (List.mem_of_getElem? (i := 113) rfl) rfl
theorem m1074 : (Jvm.Cond.lays "PathTimingModel" "PathTimingModel" "thrown" "I") ∈ Tg := tg_5 (List.mem_of_getElem? (i := 114) rfl) rfl
theorem m1076 : (Jvm.Cond.lays "PathTimingModel" "PathTimingModel" "period" "I") ∈ Tg := tg_5 (List.mem_of_getElem? (i := 116) rfl) rfl
theorem m1078 : (Jvm.Cond.lays "PathTimingModel" "PathTimingModel" "width" "I") ∈ Tg := tg_5 (List.mem_of_getElem? (i := 118) rfl) rfl
theorem m1080 : (Jvm.Cond.lays "PathTimingModel" "PathTimingModel" "nodes" "I") ∈ Tg := tg_5 (List.mem_of_getElem? (i := 120) rfl) rfl
theorem m1082 : (Jvm.Cond.laysFinal "PathTimingModel" "PathTimingModel" "kinds" "[I") ∈ Tg := tg_5 (List.mem_of_getElem? (i := 122) rfl) rfl
theorem m1084 : (Jvm.Cond.laysFinal "PathTimingModel" "PathTimingModel" "pins" "[I") ∈ Tg := tg_5 (List.mem_of_getElem? (i := 124) rfl) rfl
theorem m1086 : (Jvm.Cond.laysFinal "PathTimingModel" "PathTimingModel" "froms" "[I") ∈ Tg := tg_5 (List.mem_of_getElem? (i := 126) rfl) rfl
theorem m1088 : (Jvm.Cond.laysFinal "PathTimingModel" "PathTimingModel" "wireEarly" "[I") ∈ Tg := tg_5 (List.mem_of_getElem? (i := 128) rfl) rfl
theorem m1090 : (Jvm.Cond.laysFinal "PathTimingModel" "PathTimingModel" "wireLate" "[I") ∈ Tg := tg_5 (List.mem_of_getElem? (i := 130) rfl) rfl
theorem m1092 : (Jvm.Cond.laysFinal "PathTimingModel" "PathTimingModel" "senses" "[I") ∈ Tg := tg_5 (List.mem_of_getElem? (i := 132) rfl) rfl
theorem m1094 : (Jvm.Cond.laysFinal "PathTimingModel" "PathTimingModel" "delayEarly" "[I") ∈ Tg := tg_5 (List.mem_of_getElem? (i := 134) rfl) rfl
theorem m1096 : (Jvm.Cond.laysFinal "PathTimingModel" "PathTimingModel" "delayLate" "[I") ∈ Tg := tg_5 (List.mem_of_getElem? (i := 136) rfl) rfl
theorem m1098 : (Jvm.Cond.laysFinal "PathTimingModel" "PathTimingModel" "firstOf" "[I") ∈ Tg := tg_5 (List.mem_of_getElem? (i := 138) rfl) rfl
theorem m1100 : (Jvm.Cond.laysFinal "PathTimingModel" "PathTimingModel" "secondOf" "[I") ∈ Tg := tg_5 (List.mem_of_getElem? (i := 140) rfl) rfl
theorem m1102 : (Jvm.Cond.lays "PathTimingModel" "PathTimingModel" "analysed" "Z") ∈ Tg := tg_5 (List.mem_of_getElem? (i := 142) rfl) rfl
theorem m1104 : (Jvm.Cond.laysFinal "PathTimingModel" "PathTimingModel" "order" "[I") ∈ Tg := tg_5 (List.mem_of_getElem? (i := 144) rfl) rfl
theorem m1106 : (Jvm.Cond.lays "PathTimingModel" "PathTimingModel" "gates" "I") ∈ Tg := tg_5 (List.mem_of_getElem? (i := 146) rfl) rfl
theorem m1108 : (Jvm.Cond.laysFinal "PathTimingModel" "PathTimingModel" "wayCount" "[I") ∈ Tg := tg_5 (List.mem_of_getElem? (i := 148) rfl) rfl
theorem m1110 : (Jvm.Cond.laysFinal "PathTimingModel" "PathTimingModel" "wayBase" "[I") ∈ Tg := tg_5 (List.mem_of_getElem? (i := 150) rfl) rfl
theorem m1112 : (Jvm.Cond.laysFinal "PathTimingModel" "PathTimingModel" "wayEarly" "[I") ∈ Tg := tg_5 (List.mem_of_getElem? (i := 152) rfl) rfl
theorem m1114 : (Jvm.Cond.laysFinal "PathTimingModel" "PathTimingModel" "wayLate" "[I") ∈ Tg := tg_5 (List.mem_of_getElem? (i := 154) rfl) rfl
theorem m1116 : (Jvm.Cond.laysFinal "PathTimingModel" "PathTimingModel" "wayLast" "[I") ∈ Tg := tg_5 (List.mem_of_getElem? (i := 156) rfl) rfl
theorem m1118 : (Jvm.Cond.laysFinal "PathTimingModel" "PathTimingModel" "waySize" "[I") ∈ Tg := tg_5 (List.mem_of_getElem? (i := 158) rfl) rfl
theorem m1120 : (Jvm.Cond.laysFinal "PathTimingModel" "PathTimingModel" "wayRows" "[I") ∈ Tg := tg_5 (List.mem_of_getElem? (i := 160) rfl) rfl
theorem m1122 : (Jvm.Cond.laysFinal "PathTimingModel" "PathTimingModel" "waySpread" "[I") ∈ Tg := tg_5 (List.mem_of_getElem? (i := 162) rfl) rfl
theorem m1124 : (Jvm.Cond.laysFinal "PathTimingModel" "PathTimingModel" "clockWays" "[I") ∈ Tg := tg_5 (List.mem_of_getElem? (i := 164) rfl) rfl
theorem m1126 : (Jvm.Cond.laysFinal "PathTimingModel" "PathTimingModel" "there" "[Z") ∈ Tg := tg_5 (List.mem_of_getElem? (i := 166) rfl) rfl
theorem m1128 : (Jvm.Cond.laysFinal "PathTimingModel" "PathTimingModel" "early" "[I") ∈ Tg := tg_5 (List.mem_of_getElem? (i := 168) rfl) rfl
theorem m1130 : (Jvm.Cond.laysFinal "PathTimingModel" "PathTimingModel" "late" "[I") ∈ Tg := tg_5 (List.mem_of_getElem? (i := 170) rfl) rfl
theorem m1132 : (Jvm.Cond.lays "PathTimingModel" "PathTimingModel" "startNode" "I") ∈ Tg := tg_5 (List.mem_of_getElem? (i := 172) rfl) rfl
theorem m1134 : (Jvm.Cond.lays "PathTimingModel" "PathTimingModel" "startChange" "I") ∈ Tg := tg_5 (List.mem_of_getElem? (i := 174) rfl) rfl
theorem m1136 : (Jvm.Cond.lays "PathTimingModel" "PathTimingModel" "startWay" "I") ∈ Tg := tg_5 (List.mem_of_getElem? (i := 176) rfl) rfl
theorem m1138 : (Jvm.Cond.lays "PathTimingModel" "PathTimingModel" "startBase" "I") ∈ Tg := tg_5 (List.mem_of_getElem? (i := 178) rfl) rfl
theorem m1140 : (Jvm.Cond.lays "PathTimingModel" "PathTimingModel" "startEarly" "I") ∈ Tg := tg_5 (List.mem_of_getElem? (i := 180) rfl) rfl
theorem m1142 : (Jvm.Cond.lays "PathTimingModel" "PathTimingModel" "startLate" "I") ∈ Tg := tg_5 (List.mem_of_getElem? (i := 182) rfl) rfl
theorem m1144 : (Jvm.Cond.laysFinal "PathTimingModel" "PathTimingModel" "least" "[I") ∈ Tg := tg_5 (List.mem_of_getElem? (i := 184) rfl) rfl
theorem m1146 : (Jvm.Cond.laysFinal "PathTimingModel" "PathTimingModel" "greatest" "[I") ∈ Tg := tg_5 (List.mem_of_getElem? (i := 186) rfl) rfl
theorem m1148 : (Jvm.Cond.laysFinal "PathTimingModel" "PathTimingModel" "slacks" "[I") ∈ Tg := tg_5 (List.mem_of_getElem? (i := 188) rfl) rfl
theorem m1150 : (Jvm.Cond.lays "PathTimingModel" "PathTimingModel" "worstWith" "I") ∈ Tg := tg_5 (List.mem_of_getElem? (i := 190) rfl) rfl
theorem m1152 : (Jvm.Cond.lays "PathTimingModel" "PathTimingModel" "worstWithout" "I") ∈ Tg := tg_5 (List.mem_of_getElem? (i := 192) rfl) rfl
theorem m1154 : (Jvm.Cond.laysFinal "PathTimingModel" "PathTimingModel" "goals" "[J") ∈ Tg := tg_5 (List.mem_of_getElem? (i := 194) rfl) rfl
theorem m1156 : (Jvm.Cond.lays "PathTimingModel" "PathTimingModel" "all" "J") ∈ Tg := tg_5 (List.mem_of_getElem? (i := 196) rfl) rfl
theorem m1158 : (Jvm.Cond.laysFinal "PathTimingModel" "PathTimingModel" "atNode" "[I") ∈ Tg := tg_5 (List.mem_of_getElem? (i := 198) rfl) rfl
theorem m1160 : (Jvm.Cond.laysFinal "PathTimingModel" "PathTimingModel" "atChange" "[I") ∈ Tg := tg_5 (List.mem_of_getElem? (i := 200) rfl) rfl
theorem m1162 : (Jvm.Cond.laysFinal "PathTimingModel" "PathTimingModel" "atNext" "[I") ∈ Tg := tg_5 (List.mem_of_getElem? (i := 202) rfl) rfl
theorem m1164 : (Jvm.Cond.laysFinal "PathTimingModel" "PathTimingModel" "atEarly" "[I") ∈ Tg := tg_5 (List.mem_of_getElem? (i := 204) rfl) rfl
theorem m1166 : (Jvm.Cond.laysFinal "PathTimingModel" "PathTimingModel" "atLate" "[I") ∈ Tg := tg_5 (List.mem_of_getElem? (i := 206) rfl) rfl
theorem m1168 : (Jvm.Cond.laysFinal "PathTimingModel" "PathTimingModel" "row" "[I") ∈ Tg := tg_5 (List.mem_of_getElem? (i := 208) rfl) rfl
theorem m1170 : (Jvm.Cond.lays "PathTimingModel" "PathTimingModel" "rowSize" "I") ∈ Tg := tg_5 (List.mem_of_getElem? (i := 210) rfl) rfl
theorem m1172 : (Jvm.Cond.laysFinal "PathTimingModel" "PathTimingModel" "listed" "[I") ∈ Tg := tg_5 (List.mem_of_getElem? (i := 212) rfl) rfl
theorem m1174 : (Jvm.Cond.laysFinal "PathTimingModel" "PathTimingModel" "listSlack" "[I") ∈ Tg := tg_5 (List.mem_of_getElem? (i := 214) rfl) rfl
theorem m1176 : (Jvm.Cond.laysFinal "PathTimingModel" "PathTimingModel" "listSize" "[I") ∈ Tg := tg_5 (List.mem_of_getElem? (i := 216) rfl) rfl
theorem m1178 : (Jvm.Cond.laysFinal "PathTimingModel" "PathTimingModel" "listRows" "[I") ∈ Tg := tg_5 (List.mem_of_getElem? (i := 218) rfl) rfl
theorem m1180 : (Jvm.Cond.superclass "PathTimingModel" "java/lang/Object") ∈ Tg := tg_5 (List.mem_of_getElem? (i := 220) rfl) rfl
theorem m1181 : (Jvm.Cond.methodLink "PathTimingLaw" (83 : Nat) ({ cls := "PathTimingModel", name := "thrown", desc := "()I" } : Jvm.MethodName)) ∈ Tg := tg_5 (List.mem_of_getElem? (i := 221) rfl) rfl
theorem m1182 : (Jvm.Cond.instanceMethod ({ cls := "PathTimingModel", name := "thrown", desc := "()I" } : Jvm.MethodName)) ∈ Tg := tg_5 (List.mem_of_getElem? (i := 222) rfl) rfl
theorem m1183 : (Jvm.Cond.selects "PathTimingModel" ({ cls := "PathTimingModel", name := "thrown", desc := "()I" } : Jvm.MethodName) ({ cls := "PathTimingModel", name := "thrown", desc := "()I" } : Jvm.MethodName)) ∈ Tg := tg_5 (List.mem_of_getElem? (i := 223) rfl) rfl
theorem m1184 : (Jvm.Cond.code ({ cls := "PathTimingModel", name := "thrown", desc := "()I" } : Jvm.MethodName) prog_12_method_2_code (1 : Nat) (Option.some Jvm.ClassFile.FieldType.int)) ∈ Tg := tg_5 (List.mem_of_getElem? (i := 224) rfl) rfl
theorem m1185 : (Jvm.Cond.methodLink "PathTimingLaw" (82 : Nat) ({ cls := "PathTimingModel", name := "clock", desc := "(II)V" } : Jvm.MethodName)) ∈ Tg := tg_5 (List.mem_of_getElem? (i := 225) rfl) rfl
theorem m1186 : (Jvm.Cond.instanceMethod ({ cls := "PathTimingModel", name := "clock", desc := "(II)V" } : Jvm.MethodName)) ∈ Tg := tg_5 (List.mem_of_getElem? (i := 226) rfl) rfl
theorem m1187 : (Jvm.Cond.selects "PathTimingModel" ({ cls := "PathTimingModel", name := "clock", desc := "(II)V" } : Jvm.MethodName) ({ cls := "PathTimingModel", name := "clock", desc := "(II)V" } : Jvm.MethodName)) ∈ Tg := tg_5 (List.mem_of_getElem? (i := 227) rfl) rfl
theorem m1188 : (Jvm.Cond.code ({ cls := "PathTimingModel", name := "clock", desc := "(II)V" } : Jvm.MethodName) prog_12_method_5_code (3 : Nat) (Option.none : Option Jvm.ClassFile.FieldType)) ∈ Tg := tg_5 (List.mem_of_getElem? (i := 228) rfl) rfl
theorem m1189 : (Jvm.Cond.constant "PathTimingModel" (145 : Nat) (1000000 : Int32)) ∈ Tg := tg_5 (List.mem_of_getElem? (i := 229) rfl) rfl
theorem m1190 : (Jvm.Cond.methodLink "PathTimingLaw" (89 : Nat) ({ cls := "PathTimingModel", name := "input", desc := "(IIII)I" } : Jvm.MethodName)) ∈ Tg := tg_5 (List.mem_of_getElem? (i := 230) rfl) rfl
theorem m1191 : (Jvm.Cond.instanceMethod ({ cls := "PathTimingModel", name := "input", desc := "(IIII)I" } : Jvm.MethodName)) ∈ Tg := tg_5 (List.mem_of_getElem? (i := 231) rfl) rfl
theorem m1192 : (Jvm.Cond.selects "PathTimingModel" ({ cls := "PathTimingModel", name := "input", desc := "(IIII)I" } : Jvm.MethodName) ({ cls := "PathTimingModel", name := "input", desc := "(IIII)I" } : Jvm.MethodName)) ∈ Tg := tg_5 (List.mem_of_getElem? (i := 232) rfl) rfl
theorem m1193 : (Jvm.Cond.code ({ cls := "PathTimingModel", name := "input", desc := "(IIII)I" } : Jvm.MethodName) prog_12_method_7_code (6 : Nat) (Option.some Jvm.ClassFile.FieldType.int)) ∈ Tg := tg_5 (List.mem_of_getElem? (i := 233) rfl) rfl
theorem m1194 : (Jvm.Cond.constant "PathTimingModel" (146 : Nat) (-1000000 : Int32)) ∈ Tg := tg_5 (List.mem_of_getElem? (i := 234) rfl) rfl
theorem m1195 : (Jvm.Cond.methodLink "PathTimingModel" (147 : Nat) ({ cls := "PathTimingModel", name := "noTimes", desc := "(IIII)Z" } : Jvm.MethodName)) ∈ Tg := tg_5 (List.mem_of_getElem? (i := 235) rfl) rfl
theorem m1196 : (Jvm.Cond.static ({ cls := "PathTimingModel", name := "noTimes", desc := "(IIII)Z" } : Jvm.MethodName)) ∈ Tg := tg_5 (List.mem_of_getElem? (i := 236) rfl) rfl
theorem m1197 : (Jvm.Cond.code ({ cls := "PathTimingModel", name := "noTimes", desc := "(IIII)Z" } : Jvm.MethodName) prog_12_method_6_code (4 : Nat) (Option.some Jvm.ClassFile.FieldType.boolean)) ∈ Tg := tg_5 (List.mem_of_getElem? (i := 237) rfl) rfl
theorem m1198 : (Jvm.Cond.methodLink "PathTimingModel" (151 : Nat) ({ cls := "PathTimingModel", name := "add", desc := "(II)I" } : Jvm.MethodName)) ∈ Tg := tg_5 (List.mem_of_getElem? (i := 238) rfl) rfl
theorem m1200 : (Jvm.Cond.instanceMethod ({ cls := "PathTimingModel", name := "add", desc := "(II)I" } : Jvm.MethodName)) ∈ Tg := tg_6 (List.mem_of_getElem? (i := 0) rfl) rfl
theorem m1201 : (Jvm.Cond.code ({ cls := "PathTimingModel", name := "add", desc := "(II)I" } : Jvm.MethodName) prog_12_method_4_code (3 : Nat) (Option.some Jvm.ClassFile.FieldType.int)) ∈ Tg := tg_6 (List.mem_of_getElem? (i := 1) rfl) rfl
theorem m1202 : (Jvm.Cond.methodLink "PathTimingLaw" (93 : Nat) ({ cls := "PathTimingModel", name := "gate", desc := "(I)I" } : Jvm.MethodName)) ∈ Tg := tg_6 (List.mem_of_getElem? (i := 2) rfl) rfl
theorem m1203 : (Jvm.Cond.instanceMethod ({ cls := "PathTimingModel", name := "gate", desc := "(I)I" } : Jvm.MethodName)) ∈ Tg := tg_6 (List.mem_of_getElem? (i := 3) rfl) rfl
theorem m1204 : (Jvm.Cond.selects "PathTimingModel" ({ cls := "PathTimingModel", name := "gate", desc := "(I)I" } : Jvm.MethodName) ({ cls := "PathTimingModel", name := "gate", desc := "(I)I" } : Jvm.MethodName)) ∈ Tg := tg_6 (List.mem_of_getElem? (i := 4) rfl) rfl
theorem m1205 : (Jvm.Cond.code ({ cls := "PathTimingModel", name := "gate", desc := "(I)I" } : Jvm.MethodName) prog_12_method_8_code (2 : Nat) (Option.some Jvm.ClassFile.FieldType.int)) ∈ Tg := tg_6 (List.mem_of_getElem? (i := 5) rfl) rfl
theorem m1206 : (Jvm.Cond.methodLink "PathTimingLaw" (97 : Nat) ({ cls := "PathTimingModel", name := "register", desc := "()I" } : Jvm.MethodName)) ∈ Tg := tg_6 (List.mem_of_getElem? (i := 6) rfl) rfl
theorem m1207 : (Jvm.Cond.instanceMethod ({ cls := "PathTimingModel", name := "register", desc := "()I" } : Jvm.MethodName)) ∈ Tg := tg_6 (List.mem_of_getElem? (i := 7) rfl) rfl
theorem m1208 : (Jvm.Cond.selects "PathTimingModel" ({ cls := "PathTimingModel", name := "register", desc := "()I" } : Jvm.MethodName) ({ cls := "PathTimingModel", name := "register", desc := "()I" } : Jvm.MethodName)) ∈ Tg := tg_6 (List.mem_of_getElem? (i := 8) rfl) rfl
theorem m1209 : (Jvm.Cond.code ({ cls := "PathTimingModel", name := "register", desc := "()I" } : Jvm.MethodName) prog_12_method_9_code (1 : Nat) (Option.some Jvm.ClassFile.FieldType.int)) ∈ Tg := tg_6 (List.mem_of_getElem? (i := 9) rfl) rfl
theorem m1210 : (Jvm.Cond.methodLink "PathTimingLaw" (101 : Nat) ({ cls := "PathTimingModel", name := "output", desc := "()I" } : Jvm.MethodName)) ∈ Tg := tg_6 (List.mem_of_getElem? (i := 10) rfl) rfl
theorem m1211 : (Jvm.Cond.instanceMethod ({ cls := "PathTimingModel", name := "output", desc := "()I" } : Jvm.MethodName)) ∈ Tg := tg_6 (List.mem_of_getElem? (i := 11) rfl) rfl
theorem m1212 : (Jvm.Cond.selects "PathTimingModel" ({ cls := "PathTimingModel", name := "output", desc := "()I" } : Jvm.MethodName) ({ cls := "PathTimingModel", name := "output", desc := "()I" } : Jvm.MethodName)) ∈ Tg := tg_6 (List.mem_of_getElem? (i := 12) rfl) rfl
theorem m1213 : (Jvm.Cond.code ({ cls := "PathTimingModel", name := "output", desc := "()I" } : Jvm.MethodName) prog_12_method_10_code (1 : Nat) (Option.some Jvm.ClassFile.FieldType.int)) ∈ Tg := tg_6 (List.mem_of_getElem? (i := 13) rfl) rfl
theorem m1214 : (Jvm.Cond.methodLink "PathTimingLaw" (105 : Nat) ({ cls := "PathTimingModel", name := "wire", desc := "(IIIII)V" } : Jvm.MethodName)) ∈ Tg := tg_6 (List.mem_of_getElem? (i := 14) rfl) rfl
theorem m1215 : (Jvm.Cond.instanceMethod ({ cls := "PathTimingModel", name := "wire", desc := "(IIIII)V" } : Jvm.MethodName)) ∈ Tg := tg_6 (List.mem_of_getElem? (i := 15) rfl) rfl
theorem m1216 : (Jvm.Cond.selects "PathTimingModel" ({ cls := "PathTimingModel", name := "wire", desc := "(IIIII)V" } : Jvm.MethodName) ({ cls := "PathTimingModel", name := "wire", desc := "(IIIII)V" } : Jvm.MethodName)) ∈ Tg := tg_6 (List.mem_of_getElem? (i := 16) rfl) rfl
theorem m1217 : (Jvm.Cond.code ({ cls := "PathTimingModel", name := "wire", desc := "(IIIII)V" } : Jvm.MethodName) prog_12_method_12_code (6 : Nat) (Option.none : Option Jvm.ClassFile.FieldType)) ∈ Tg := tg_6 (List.mem_of_getElem? (i := 17) rfl) rfl
theorem m1218 : (Jvm.Cond.methodLink "PathTimingModel" (155 : Nat) ({ cls := "PathTimingModel", name := "noPin", desc := "(II)Z" } : Jvm.MethodName)) ∈ Tg := tg_6 (List.mem_of_getElem? (i := 18) rfl) rfl
theorem m1220 : (Jvm.Cond.instanceMethod ({ cls := "PathTimingModel", name := "noPin", desc := "(II)Z" } : Jvm.MethodName)) ∈ Tg := tg_6 (List.mem_of_getElem? (i := 20) rfl) rfl
theorem m1221 : (Jvm.Cond.code ({ cls := "PathTimingModel", name := "noPin", desc := "(II)Z" } : Jvm.MethodName) prog_12_method_11_code (3 : Nat) (Option.some Jvm.ClassFile.FieldType.boolean)) ∈ Tg := tg_6 (List.mem_of_getElem? (i := 21) rfl) rfl
theorem m1222 : (Jvm.Cond.methodLink "PathTimingLaw" (109 : Nat) ({ cls := "PathTimingModel", name := "sense", desc := "(III)V" } : Jvm.MethodName)) ∈ Tg := tg_6 (List.mem_of_getElem? (i := 22) rfl) rfl
theorem m1223 : (Jvm.Cond.instanceMethod ({ cls := "PathTimingModel", name := "sense", desc := "(III)V" } : Jvm.MethodName)) ∈ Tg := tg_6 (List.mem_of_getElem? (i := 23) rfl) rfl
theorem m1224 : (Jvm.Cond.selects "PathTimingModel" ({ cls := "PathTimingModel", name := "sense", desc := "(III)V" } : Jvm.MethodName) ({ cls := "PathTimingModel", name := "sense", desc := "(III)V" } : Jvm.MethodName)) ∈ Tg := tg_6 (List.mem_of_getElem? (i := 24) rfl) rfl
theorem m1225 : (Jvm.Cond.code ({ cls := "PathTimingModel", name := "sense", desc := "(III)V" } : Jvm.MethodName) prog_12_method_13_code (4 : Nat) (Option.none : Option Jvm.ClassFile.FieldType)) ∈ Tg := tg_6 (List.mem_of_getElem? (i := 25) rfl) rfl
theorem m1226 : (Jvm.Cond.methodLink "PathTimingLaw" (112 : Nat) ({ cls := "PathTimingModel", name := "delay", desc := "(IIIII)V" } : Jvm.MethodName)) ∈ Tg := tg_6 (List.mem_of_getElem? (i := 26) rfl) rfl
theorem m1227 : (Jvm.Cond.instanceMethod ({ cls := "PathTimingModel", name := "delay", desc := "(IIIII)V" } : Jvm.MethodName)) ∈ Tg := tg_6 (List.mem_of_getElem? (i := 27) rfl) rfl
theorem m1228 : (Jvm.Cond.selects "PathTimingModel" ({ cls := "PathTimingModel", name := "delay", desc := "(IIIII)V" } : Jvm.MethodName) ({ cls := "PathTimingModel", name := "delay", desc := "(IIIII)V" } : Jvm.MethodName)) ∈ Tg := tg_6 (List.mem_of_getElem? (i := 28) rfl) rfl
theorem m1229 : (Jvm.Cond.code ({ cls := "PathTimingModel", name := "delay", desc := "(IIIII)V" } : Jvm.MethodName) prog_12_method_14_code (6 : Nat) (Option.none : Option Jvm.ClassFile.FieldType)) ∈ Tg := tg_6 (List.mem_of_getElem? (i := 29) rfl) rfl
theorem m1230 : (Jvm.Cond.methodLink "PathTimingLaw" (116 : Nat) ({ cls := "PathTimingModel", name := "check", desc := "(IIII)V" } : Jvm.MethodName)) ∈ Tg := tg_6 (List.mem_of_getElem? (i := 30) rfl) rfl
theorem m1231 : (Jvm.Cond.instanceMethod ({ cls := "PathTimingModel", name := "check", desc := "(IIII)V" } : Jvm.MethodName)) ∈ Tg := tg_6 (List.mem_of_getElem? (i := 31) rfl) rfl
theorem m1232 : (Jvm.Cond.selects "PathTimingModel" ({ cls := "PathTimingModel", name := "check", desc := "(IIII)V" } : Jvm.MethodName) ({ cls := "PathTimingModel", name := "check", desc := "(IIII)V" } : Jvm.MethodName)) ∈ Tg := tg_6 (List.mem_of_getElem? (i := 32) rfl) rfl
theorem m1233 : (Jvm.Cond.code ({ cls := "PathTimingModel", name := "check", desc := "(IIII)V" } : Jvm.MethodName) prog_12_method_16_code (5 : Nat) (Option.none : Option Jvm.ClassFile.FieldType)) ∈ Tg := tg_6 (List.mem_of_getElem? (i := 33) rfl) rfl
theorem m1234 : (Jvm.Cond.methodLink "PathTimingModel" (159 : Nat) ({ cls := "PathTimingModel", name := "isEnd", desc := "(I)Z" } : Jvm.MethodName)) ∈ Tg := tg_6 (List.mem_of_getElem? (i := 34) rfl) rfl
theorem m1236 : (Jvm.Cond.instanceMethod ({ cls := "PathTimingModel", name := "isEnd", desc := "(I)Z" } : Jvm.MethodName)) ∈ Tg := tg_6 (List.mem_of_getElem? (i := 36) rfl) rfl
theorem m1237 : (Jvm.Cond.code ({ cls := "PathTimingModel", name := "isEnd", desc := "(I)Z" } : Jvm.MethodName) prog_12_method_15_code (2 : Nat) (Option.some Jvm.ClassFile.FieldType.boolean)) ∈ Tg := tg_6 (List.mem_of_getElem? (i := 37) rfl) rfl
theorem m1238 : (Jvm.Cond.methodLink "PathTimingLaw" (124 : Nat) ({ cls := "PathTimingModel", name := "cycle", desc := "()I" } : Jvm.MethodName)) ∈ Tg := tg_6 (List.mem_of_getElem? (i := 38) rfl) rfl
theorem m1239 : (Jvm.Cond.instanceMethod ({ cls := "PathTimingModel", name := "cycle", desc := "()I" } : Jvm.MethodName)) ∈ Tg := tg_6 (List.mem_of_getElem? (i := 39) rfl) rfl
theorem m1240 : (Jvm.Cond.selects "PathTimingModel" ({ cls := "PathTimingModel", name := "cycle", desc := "()I" } : Jvm.MethodName) ({ cls := "PathTimingModel", name := "cycle", desc := "()I" } : Jvm.MethodName)) ∈ Tg := tg_6 (List.mem_of_getElem? (i := 40) rfl) rfl
theorem m1241 : (Jvm.Cond.code ({ cls := "PathTimingModel", name := "cycle", desc := "()I" } : Jvm.MethodName) prog_12_method_19_code (2 : Nat) (Option.some Jvm.ClassFile.FieldType.int)) ∈ Tg := tg_6 (List.mem_of_getElem? (i := 41) rfl) rfl
theorem m1242 : (Jvm.Cond.methodLink "PathTimingModel" (163 : Nat) ({ cls := "PathTimingModel", name := "isGate", desc := "(I)Z" } : Jvm.MethodName)) ∈ Tg := tg_6 (List.mem_of_getElem? (i := 42) rfl) rfl
theorem m1244 : (Jvm.Cond.instanceMethod ({ cls := "PathTimingModel", name := "isGate", desc := "(I)Z" } : Jvm.MethodName)) ∈ Tg := tg_6 (List.mem_of_getElem? (i := 44) rfl) rfl
theorem m1245 : (Jvm.Cond.code ({ cls := "PathTimingModel", name := "isGate", desc := "(I)Z" } : Jvm.MethodName) prog_12_method_17_code (2 : Nat) (Option.some Jvm.ClassFile.FieldType.boolean)) ∈ Tg := tg_6 (List.mem_of_getElem? (i := 45) rfl) rfl
theorem m1246 : (Jvm.Cond.methodLink "PathTimingModel" (166 : Nat) ({ cls := "PathTimingModel", name := "isRound", desc := "(I)Z" } : Jvm.MethodName)) ∈ Tg := tg_6 (List.mem_of_getElem? (i := 46) rfl) rfl
theorem m1248 : (Jvm.Cond.instanceMethod ({ cls := "PathTimingModel", name := "isRound", desc := "(I)Z" } : Jvm.MethodName)) ∈ Tg := tg_6 (List.mem_of_getElem? (i := 48) rfl) rfl
theorem m1249 : (Jvm.Cond.code ({ cls := "PathTimingModel", name := "isRound", desc := "(I)Z" } : Jvm.MethodName) prog_12_method_18_code (6 : Nat) (Option.some Jvm.ClassFile.FieldType.boolean)) ∈ Tg := tg_6 (List.mem_of_getElem? (i := 49) rfl) rfl
theorem m1250 : (Jvm.Cond.methodLink "PathTimingLaw" (120 : Nat) ({ cls := "PathTimingModel", name := "analyse", desc := "()I" } : Jvm.MethodName)) ∈ Tg := tg_6 (List.mem_of_getElem? (i := 50) rfl) rfl
theorem m1251 : (Jvm.Cond.instanceMethod ({ cls := "PathTimingModel", name := "analyse", desc := "()I" } : Jvm.MethodName)) ∈ Tg := tg_6 (List.mem_of_getElem? (i := 51) rfl) rfl
theorem m1252 : (Jvm.Cond.selects "PathTimingModel" ({ cls := "PathTimingModel", name := "analyse", desc := "()I" } : Jvm.MethodName) ({ cls := "PathTimingModel", name := "analyse", desc := "()I" } : Jvm.MethodName)) ∈ Tg := tg_6 (List.mem_of_getElem? (i := 52) rfl) rfl
theorem m1253 : (Jvm.Cond.code ({ cls := "PathTimingModel", name := "analyse", desc := "()I" } : Jvm.MethodName) prog_12_method_45_code (3 : Nat) (Option.some Jvm.ClassFile.FieldType.int)) ∈ Tg := tg_6 (List.mem_of_getElem? (i := 53) rfl) rfl
theorem m1254 : (Jvm.Cond.methodLink "PathTimingModel" (264 : Nat) ({ cls := "PathTimingModel", name := "cycle", desc := "()I" } : Jvm.MethodName)) ∈ Tg := tg_6 (List.mem_of_getElem? (i := 54) rfl) rfl
theorem m1255 : (Jvm.Cond.methodLink "PathTimingModel" (267 : Nat) ({ cls := "PathTimingModel", name := "sort", desc := "()V" } : Jvm.MethodName)) ∈ Tg := tg_6 (List.mem_of_getElem? (i := 55) rfl) rfl
theorem m1257 : (Jvm.Cond.instanceMethod ({ cls := "PathTimingModel", name := "sort", desc := "()V" } : Jvm.MethodName)) ∈ Tg := tg_6 (List.mem_of_getElem? (i := 57) rfl) rfl
theorem m1258 : (Jvm.Cond.code ({ cls := "PathTimingModel", name := "sort", desc := "()V" } : Jvm.MethodName) prog_12_method_20_code (6 : Nat) (Option.none : Option Jvm.ClassFile.FieldType)) ∈ Tg := tg_6 (List.mem_of_getElem? (i := 58) rfl) rfl
theorem m1259 : (Jvm.Cond.methodLink "PathTimingModel" (270 : Nat) ({ cls := "PathTimingModel", name := "countClock", desc := "()V" } : Jvm.MethodName)) ∈ Tg := tg_6 (List.mem_of_getElem? (i := 59) rfl) rfl
theorem m1261 : (Jvm.Cond.instanceMethod ({ cls := "PathTimingModel", name := "countClock", desc := "()V" } : Jvm.MethodName)) ∈ Tg := tg_6 (List.mem_of_getElem? (i := 61) rfl) rfl
theorem m1262 : (Jvm.Cond.code ({ cls := "PathTimingModel", name := "countClock", desc := "()V" } : Jvm.MethodName) prog_12_method_22_code (7 : Nat) (Option.none : Option Jvm.ClassFile.FieldType)) ∈ Tg := tg_6 (List.mem_of_getElem? (i := 62) rfl) rfl
theorem m1263 : (Jvm.Cond.methodLink "PathTimingModel" (172 : Nat) ({ cls := "PathTimingModel", name := "lets", desc := "(IIII)Z" } : Jvm.MethodName)) ∈ Tg := tg_6 (List.mem_of_getElem? (i := 63) rfl) rfl
theorem m1265 : (Jvm.Cond.instanceMethod ({ cls := "PathTimingModel", name := "lets", desc := "(IIII)Z" } : Jvm.MethodName)) ∈ Tg := tg_6 (List.mem_of_getElem? (i := 65) rfl) rfl
theorem m1266 : (Jvm.Cond.code ({ cls := "PathTimingModel", name := "lets", desc := "(IIII)Z" } : Jvm.MethodName) prog_12_method_21_code (6 : Nat) (Option.some Jvm.ClassFile.FieldType.boolean)) ∈ Tg := tg_6 (List.mem_of_getElem? (i := 66) rfl) rfl
theorem m1267 : (Jvm.Cond.methodLink "PathTimingModel" (273 : Nat) ({ cls := "PathTimingModel", name := "findWays", desc := "(I)V" } : Jvm.MethodName)) ∈ Tg := tg_6 (List.mem_of_getElem? (i := 67) rfl) rfl
theorem m1269 : (Jvm.Cond.instanceMethod ({ cls := "PathTimingModel", name := "findWays", desc := "(I)V" } : Jvm.MethodName)) ∈ Tg := tg_6 (List.mem_of_getElem? (i := 69) rfl) rfl
theorem m1270 : (Jvm.Cond.code ({ cls := "PathTimingModel", name := "findWays", desc := "(I)V" } : Jvm.MethodName) prog_12_method_24_code (7 : Nat) (Option.none : Option Jvm.ClassFile.FieldType)) ∈ Tg := tg_6 (List.mem_of_getElem? (i := 70) rfl) rfl
theorem m1271 : (Jvm.Cond.methodLink "PathTimingModel" (175 : Nat) ({ cls := "PathTimingModel", name := "keepWay", desc := "(II)V" } : Jvm.MethodName)) ∈ Tg := tg_6 (List.mem_of_getElem? (i := 71) rfl) rfl
theorem m1273 : (Jvm.Cond.instanceMethod ({ cls := "PathTimingModel", name := "keepWay", desc := "(II)V" } : Jvm.MethodName)) ∈ Tg := tg_6 (List.mem_of_getElem? (i := 73) rfl) rfl
theorem m1274 : (Jvm.Cond.code ({ cls := "PathTimingModel", name := "keepWay", desc := "(II)V" } : Jvm.MethodName) prog_12_method_23_code (12 : Nat) (Option.none : Option Jvm.ClassFile.FieldType)) ∈ Tg := tg_6 (List.mem_of_getElem? (i := 74) rfl) rfl
theorem m1275 : (Jvm.Cond.methodLink "PathTimingModel" (276 : Nat) ({ cls := "PathTimingModel", name := "clearAll", desc := "()V" } : Jvm.MethodName)) ∈ Tg := tg_6 (List.mem_of_getElem? (i := 75) rfl) rfl
theorem m1277 : (Jvm.Cond.instanceMethod ({ cls := "PathTimingModel", name := "clearAll", desc := "()V" } : Jvm.MethodName)) ∈ Tg := tg_6 (List.mem_of_getElem? (i := 77) rfl) rfl
theorem m1278 : (Jvm.Cond.code ({ cls := "PathTimingModel", name := "clearAll", desc := "()V" } : Jvm.MethodName) prog_12_method_44_code (2 : Nat) (Option.none : Option Jvm.ClassFile.FieldType)) ∈ Tg := tg_6 (List.mem_of_getElem? (i := 78) rfl) rfl
theorem m1279 : (Jvm.Cond.methodLink "PathTimingModel" (279 : Nat) ({ cls := "PathTimingModel", name := "countGoals", desc := "()V" } : Jvm.MethodName)) ∈ Tg := tg_6 (List.mem_of_getElem? (i := 79) rfl) rfl
theorem m1281 : (Jvm.Cond.instanceMethod ({ cls := "PathTimingModel", name := "countGoals", desc := "()V" } : Jvm.MethodName)) ∈ Tg := tg_6 (List.mem_of_getElem? (i := 81) rfl) rfl
theorem m1282 : (Jvm.Cond.code ({ cls := "PathTimingModel", name := "countGoals", desc := "()V" } : Jvm.MethodName) prog_12_method_37_code (7 : Nat) (Option.none : Option Jvm.ClassFile.FieldType)) ∈ Tg := tg_6 (List.mem_of_getElem? (i := 82) rfl) rfl
theorem m1283 : (Jvm.Cond.constantLong "PathTimingModel" (235 : Nat) (1000000 : Int64)) ∈ Tg := tg_6 (List.mem_of_getElem? (i := 83) rfl) rfl
theorem m1284 : (Jvm.Cond.methodLink "PathTimingModel" (241 : Nat) ({ cls := "PathTimingModel", name := "starts", desc := "(I)I" } : Jvm.MethodName)) ∈ Tg := tg_6 (List.mem_of_getElem? (i := 84) rfl) rfl
theorem m1286 : (Jvm.Cond.instanceMethod ({ cls := "PathTimingModel", name := "starts", desc := "(I)I" } : Jvm.MethodName)) ∈ Tg := tg_6 (List.mem_of_getElem? (i := 86) rfl) rfl
theorem m1287 : (Jvm.Cond.code ({ cls := "PathTimingModel", name := "starts", desc := "(I)I" } : Jvm.MethodName) prog_12_method_36_code (2 : Nat) (Option.some Jvm.ClassFile.FieldType.int)) ∈ Tg := tg_6 (List.mem_of_getElem? (i := 87) rfl) rfl
theorem m1288 : (Jvm.Cond.methodLink "PathTimingModel" (282 : Nat) ({ cls := "PathTimingModel", name := "setStart", desc := "(II)V" } : Jvm.MethodName)) ∈ Tg := tg_6 (List.mem_of_getElem? (i := 88) rfl) rfl
theorem m1290 : (Jvm.Cond.instanceMethod ({ cls := "PathTimingModel", name := "setStart", desc := "(II)V" } : Jvm.MethodName)) ∈ Tg := tg_6 (List.mem_of_getElem? (i := 90) rfl) rfl
theorem m1291 : (Jvm.Cond.code ({ cls := "PathTimingModel", name := "setStart", desc := "(II)V" } : Jvm.MethodName) prog_12_method_35_code (3 : Nat) (Option.none : Option Jvm.ClassFile.FieldType)) ∈ Tg := tg_6 (List.mem_of_getElem? (i := 91) rfl) rfl
theorem m1292 : (Jvm.Cond.methodLink "PathTimingModel" (285 : Nat) ({ cls := "PathTimingModel", name := "fromStart", desc := "()V" } : Jvm.MethodName)) ∈ Tg := tg_6 (List.mem_of_getElem? (i := 92) rfl) rfl
theorem m1294 : (Jvm.Cond.instanceMethod ({ cls := "PathTimingModel", name := "fromStart", desc := "()V" } : Jvm.MethodName)) ∈ Tg := tg_6 (List.mem_of_getElem? (i := 94) rfl) rfl
theorem m1295 : (Jvm.Cond.code ({ cls := "PathTimingModel", name := "fromStart", desc := "()V" } : Jvm.MethodName) prog_12_method_34_code (3 : Nat) (Option.none : Option Jvm.ClassFile.FieldType)) ∈ Tg := tg_6 (List.mem_of_getElem? (i := 95) rfl) rfl
theorem m1296 : (Jvm.Cond.methodLink "PathTimingModel" (228 : Nat) ({ cls := "PathTimingModel", name := "lead", desc := "()V" } : Jvm.MethodName)) ∈ Tg := tg_6 (List.mem_of_getElem? (i := 96) rfl) rfl
theorem m1298 : (Jvm.Cond.instanceMethod ({ cls := "PathTimingModel", name := "lead", desc := "()V" } : Jvm.MethodName)) ∈ Tg := tg_6 (List.mem_of_getElem? (i := 98) rfl) rfl
theorem m1299 : (Jvm.Cond.code ({ cls := "PathTimingModel", name := "lead", desc := "()V" } : Jvm.MethodName) prog_12_method_27_code (8 : Nat) (Option.none : Option Jvm.ClassFile.FieldType)) ∈ Tg := tg_6 (List.mem_of_getElem? (i := 99) rfl) rfl
theorem m1300 : (Jvm.Cond.methodLink "PathTimingModel" (191 : Nat) ({ cls := "PathTimingModel", name := "clearStart", desc := "()V" } : Jvm.MethodName)) ∈ Tg := tg_6 (List.mem_of_getElem? (i := 100) rfl) rfl
theorem m1302 : (Jvm.Cond.instanceMethod ({ cls := "PathTimingModel", name := "clearStart", desc := "()V" } : Jvm.MethodName)) ∈ Tg := tg_6 (List.mem_of_getElem? (i := 102) rfl) rfl
theorem m1303 : (Jvm.Cond.code ({ cls := "PathTimingModel", name := "clearStart", desc := "()V" } : Jvm.MethodName) prog_12_method_25_code (2 : Nat) (Option.none : Option Jvm.ClassFile.FieldType)) ∈ Tg := tg_6 (List.mem_of_getElem? (i := 103) rfl) rfl
theorem m1304 : (Jvm.Cond.methodLink "PathTimingModel" (194 : Nat) ({ cls := "PathTimingModel", name := "reach", desc := "(III)V" } : Jvm.MethodName)) ∈ Tg := tg_6 (List.mem_of_getElem? (i := 104) rfl) rfl
theorem m1306 : (Jvm.Cond.instanceMethod ({ cls := "PathTimingModel", name := "reach", desc := "(III)V" } : Jvm.MethodName)) ∈ Tg := tg_6 (List.mem_of_getElem? (i := 106) rfl) rfl
theorem m1307 : (Jvm.Cond.code ({ cls := "PathTimingModel", name := "reach", desc := "(III)V" } : Jvm.MethodName) prog_12_method_26_code (4 : Nat) (Option.none : Option Jvm.ClassFile.FieldType)) ∈ Tg := tg_6 (List.mem_of_getElem? (i := 107) rfl) rfl
theorem m1308 : (Jvm.Cond.methodLink "PathTimingModel" (220 : Nat) ({ cls := "PathTimingModel", name := "arrive", desc := "(IIII)V" } : Jvm.MethodName)) ∈ Tg := tg_6 (List.mem_of_getElem? (i := 108) rfl) rfl
theorem m1310 : (Jvm.Cond.instanceMethod ({ cls := "PathTimingModel", name := "arrive", desc := "(IIII)V" } : Jvm.MethodName)) ∈ Tg := tg_6 (List.mem_of_getElem? (i := 110) rfl) rfl
theorem m1311 : (Jvm.Cond.code ({ cls := "PathTimingModel", name := "arrive", desc := "(IIII)V" } : Jvm.MethodName) prog_12_method_28_code (6 : Nat) (Option.none : Option Jvm.ClassFile.FieldType)) ∈ Tg := tg_6 (List.mem_of_getElem? (i := 111) rfl) rfl
theorem m1312 : (Jvm.Cond.methodLink "PathTimingModel" (231 : Nat) ({ cls := "PathTimingModel", name := "finishAt", desc := "(I)V" } : Jvm.MethodName)) ∈ Tg := tg_6 (List.mem_of_getElem? (i := 112) rfl) rfl
theorem m1314 : (Jvm.Cond.instanceMethod ({ cls := "PathTimingModel", name := "finishAt", desc := "(I)V" } : Jvm.MethodName)) ∈ Tg := tg_6 (List.mem_of_getElem? (i := 114) rfl) rfl
theorem m1315 : (Jvm.Cond.code ({ cls := "PathTimingModel", name := "finishAt", desc := "(I)V" } : Jvm.MethodName) prog_12_method_33_code (7 : Nat) (Option.none : Option Jvm.ClassFile.FieldType)) ∈ Tg := tg_6 (List.mem_of_getElem? (i := 115) rfl) rfl
theorem m1316 : (Jvm.Cond.methodLink "PathTimingModel" (224 : Nat) ({ cls := "PathTimingModel", name := "meet", desc := "(IIIII)V" } : Jvm.MethodName)) ∈ Tg := tg_6 (List.mem_of_getElem? (i := 116) rfl) rfl
theorem m1318 : (Jvm.Cond.instanceMethod ({ cls := "PathTimingModel", name := "meet", desc := "(IIIII)V" } : Jvm.MethodName)) ∈ Tg := tg_6 (List.mem_of_getElem? (i := 118) rfl) rfl
theorem m1319 : (Jvm.Cond.code ({ cls := "PathTimingModel", name := "meet", desc := "(IIIII)V" } : Jvm.MethodName) prog_12_method_32_code (9 : Nat) (Option.none : Option Jvm.ClassFile.FieldType)) ∈ Tg := tg_6 (List.mem_of_getElem? (i := 119) rfl) rfl
theorem m1320 : (Jvm.Cond.methodLink "PathTimingModel" (210 : Nat) ({ cls := "PathTimingModel", name := "slackOf", desc := "(IIIIII)I" } : Jvm.MethodName)) ∈ Tg := tg_6 (List.mem_of_getElem? (i := 120) rfl) rfl
theorem m1322 : (Jvm.Cond.instanceMethod ({ cls := "PathTimingModel", name := "slackOf", desc := "(IIIIII)I" } : Jvm.MethodName)) ∈ Tg := tg_6 (List.mem_of_getElem? (i := 122) rfl) rfl
theorem m1323 : (Jvm.Cond.code ({ cls := "PathTimingModel", name := "slackOf", desc := "(IIIIII)I" } : Jvm.MethodName) prog_12_method_31_code (7 : Nat) (Option.some Jvm.ClassFile.FieldType.int)) ∈ Tg := tg_6 (List.mem_of_getElem? (i := 123) rfl) rfl
theorem m1324 : (Jvm.Cond.methodLink "PathTimingModel" (203 : Nat) ({ cls := "PathTimingModel", name := "edge", desc := "(I)I" } : Jvm.MethodName)) ∈ Tg := tg_6 (List.mem_of_getElem? (i := 124) rfl) rfl
theorem m1326 : (Jvm.Cond.instanceMethod ({ cls := "PathTimingModel", name := "edge", desc := "(I)I" } : Jvm.MethodName)) ∈ Tg := tg_6 (List.mem_of_getElem? (i := 126) rfl) rfl
theorem m1327 : (Jvm.Cond.code ({ cls := "PathTimingModel", name := "edge", desc := "(I)I" } : Jvm.MethodName) prog_12_method_30_code (3 : Nat) (Option.some Jvm.ClassFile.FieldType.int)) ∈ Tg := tg_6 (List.mem_of_getElem? (i := 127) rfl) rfl
theorem m1328 : (Jvm.Cond.methodLink "PathTimingModel" (207 : Nat) ({ cls := "PathTimingModel", name := "credit", desc := "(I)I" } : Jvm.MethodName)) ∈ Tg := tg_6 (List.mem_of_getElem? (i := 128) rfl) rfl
theorem m1330 : (Jvm.Cond.instanceMethod ({ cls := "PathTimingModel", name := "credit", desc := "(I)I" } : Jvm.MethodName)) ∈ Tg := tg_6 (List.mem_of_getElem? (i := 130) rfl) rfl
theorem m1331 : (Jvm.Cond.code ({ cls := "PathTimingModel", name := "credit", desc := "(I)I" } : Jvm.MethodName) prog_12_method_29_code (4 : Nat) (Option.some Jvm.ClassFile.FieldType.int)) ∈ Tg := tg_6 (List.mem_of_getElem? (i := 131) rfl) rfl
theorem m1332 : (Jvm.Cond.constantLong "PathTimingModel" (288 : Nat) (4000 : Int64)) ∈ Tg := tg_6 (List.mem_of_getElem? (i := 132) rfl) rfl
theorem m1333 : (Jvm.Cond.methodLink "PathTimingModel" (290 : Nat) ({ cls := "PathTimingModel", name := "walk", desc := "()V" } : Jvm.MethodName)) ∈ Tg := tg_6 (List.mem_of_getElem? (i := 133) rfl) rfl
theorem m1335 : (Jvm.Cond.instanceMethod ({ cls := "PathTimingModel", name := "walk", desc := "()V" } : Jvm.MethodName)) ∈ Tg := tg_6 (List.mem_of_getElem? (i := 135) rfl) rfl
theorem m1336 : (Jvm.Cond.code ({ cls := "PathTimingModel", name := "walk", desc := "()V" } : Jvm.MethodName) prog_12_method_43_code (9 : Nat) (Option.none : Option Jvm.ClassFile.FieldType)) ∈ Tg := tg_6 (List.mem_of_getElem? (i := 136) rfl) rfl
theorem m1337 : (Jvm.Cond.methodLink "PathTimingModel" (257 : Nat) ({ cls := "PathTimingModel", name := "startRow", desc := "()I" } : Jvm.MethodName)) ∈ Tg := tg_6 (List.mem_of_getElem? (i := 137) rfl) rfl
theorem m1339 : (Jvm.Cond.instanceMethod ({ cls := "PathTimingModel", name := "startRow", desc := "()I" } : Jvm.MethodName)) ∈ Tg := tg_6 (List.mem_of_getElem? (i := 139) rfl) rfl
theorem m1340 : (Jvm.Cond.code ({ cls := "PathTimingModel", name := "startRow", desc := "()I" } : Jvm.MethodName) prog_12_method_42_code (3 : Nat) (Option.some Jvm.ClassFile.FieldType.int)) ∈ Tg := tg_6 (List.mem_of_getElem? (i := 140) rfl) rfl
theorem m1341 : (Jvm.Cond.methodLink "PathTimingModel" (261 : Nat) ({ cls := "PathTimingModel", name := "endAll", desc := "(IIIII)V" } : Jvm.MethodName)) ∈ Tg := tg_6 (List.mem_of_getElem? (i := 141) rfl) rfl
theorem m1343 : (Jvm.Cond.instanceMethod ({ cls := "PathTimingModel", name := "endAll", desc := "(IIIII)V" } : Jvm.MethodName)) ∈ Tg := tg_6 (List.mem_of_getElem? (i := 143) rfl) rfl
theorem m1344 : (Jvm.Cond.code ({ cls := "PathTimingModel", name := "endAll", desc := "(IIIII)V" } : Jvm.MethodName) prog_12_method_41_code (7 : Nat) (Option.none : Option Jvm.ClassFile.FieldType)) ∈ Tg := tg_6 (List.mem_of_getElem? (i := 144) rfl) rfl
theorem m1345 : (Jvm.Cond.methodLink "PathTimingModel" (253 : Nat) ({ cls := "PathTimingModel", name := "end", desc := "(IIIIII)V" } : Jvm.MethodName)) ∈ Tg := tg_6 (List.mem_of_getElem? (i := 145) rfl) rfl
theorem m1347 : (Jvm.Cond.instanceMethod ({ cls := "PathTimingModel", name := "end", desc := "(IIIIII)V" } : Jvm.MethodName)) ∈ Tg := tg_6 (List.mem_of_getElem? (i := 147) rfl) rfl
theorem m1348 : (Jvm.Cond.code ({ cls := "PathTimingModel", name := "end", desc := "(IIIIII)V" } : Jvm.MethodName) prog_12_method_40_code (8 : Nat) (Option.none : Option Jvm.ClassFile.FieldType)) ∈ Tg := tg_6 (List.mem_of_getElem? (i := 148) rfl) rfl
theorem m1349 : (Jvm.Cond.methodLink "PathTimingModel" (250 : Nat) ({ cls := "PathTimingModel", name := "list", desc := "(II)V" } : Jvm.MethodName)) ∈ Tg := tg_6 (List.mem_of_getElem? (i := 149) rfl) rfl
theorem m1351 : (Jvm.Cond.instanceMethod ({ cls := "PathTimingModel", name := "list", desc := "(II)V" } : Jvm.MethodName)) ∈ Tg := tg_6 (List.mem_of_getElem? (i := 151) rfl) rfl
theorem m1352 : (Jvm.Cond.code ({ cls := "PathTimingModel", name := "list", desc := "(II)V" } : Jvm.MethodName) prog_12_method_39_code (7 : Nat) (Option.none : Option Jvm.ClassFile.FieldType)) ∈ Tg := tg_6 (List.mem_of_getElem? (i := 152) rfl) rfl
theorem m1353 : (Jvm.Cond.methodLink "PathTimingModel" (247 : Nat) ({ cls := "PathTimingModel", name := "isBefore", desc := "(II)Z" } : Jvm.MethodName)) ∈ Tg := tg_6 (List.mem_of_getElem? (i := 153) rfl) rfl
theorem m1355 : (Jvm.Cond.instanceMethod ({ cls := "PathTimingModel", name := "isBefore", desc := "(II)Z" } : Jvm.MethodName)) ∈ Tg := tg_6 (List.mem_of_getElem? (i := 155) rfl) rfl
theorem m1356 : (Jvm.Cond.code ({ cls := "PathTimingModel", name := "isBefore", desc := "(II)Z" } : Jvm.MethodName) prog_12_method_38_code (4 : Nat) (Option.some Jvm.ClassFile.FieldType.boolean)) ∈ Tg := tg_6 (List.mem_of_getElem? (i := 156) rfl) rfl
theorem m1357 : (Jvm.Cond.methodLink "PathTimingLaw" (127 : Nat) ({ cls := "PathTimingModel", name := "ways", desc := "(I)I" } : Jvm.MethodName)) ∈ Tg := tg_6 (List.mem_of_getElem? (i := 157) rfl) rfl
theorem m1358 : (Jvm.Cond.instanceMethod ({ cls := "PathTimingModel", name := "ways", desc := "(I)I" } : Jvm.MethodName)) ∈ Tg := tg_6 (List.mem_of_getElem? (i := 158) rfl) rfl
theorem m1359 : (Jvm.Cond.selects "PathTimingModel" ({ cls := "PathTimingModel", name := "ways", desc := "(I)I" } : Jvm.MethodName) ({ cls := "PathTimingModel", name := "ways", desc := "(I)I" } : Jvm.MethodName)) ∈ Tg := tg_6 (List.mem_of_getElem? (i := 159) rfl) rfl
theorem m1360 : (Jvm.Cond.code ({ cls := "PathTimingModel", name := "ways", desc := "(I)I" } : Jvm.MethodName) prog_12_method_47_code (2 : Nat) (Option.some Jvm.ClassFile.FieldType.int)) ∈ Tg := tg_6 (List.mem_of_getElem? (i := 160) rfl) rfl
theorem m1361 : (Jvm.Cond.methodLink "PathTimingLaw" (131 : Nat) ({ cls := "PathTimingModel", name := "arrival", desc := "(IIIZ)I" } : Jvm.MethodName)) ∈ Tg := tg_6 (List.mem_of_getElem? (i := 161) rfl) rfl
theorem m1362 : (Jvm.Cond.instanceMethod ({ cls := "PathTimingModel", name := "arrival", desc := "(IIIZ)I" } : Jvm.MethodName)) ∈ Tg := tg_6 (List.mem_of_getElem? (i := 162) rfl) rfl
theorem m1363 : (Jvm.Cond.selects "PathTimingModel" ({ cls := "PathTimingModel", name := "arrival", desc := "(IIIZ)I" } : Jvm.MethodName) ({ cls := "PathTimingModel", name := "arrival", desc := "(IIIZ)I" } : Jvm.MethodName)) ∈ Tg := tg_6 (List.mem_of_getElem? (i := 163) rfl) rfl
theorem m1364 : (Jvm.Cond.code ({ cls := "PathTimingModel", name := "arrival", desc := "(IIIZ)I" } : Jvm.MethodName) prog_12_method_48_code (5 : Nat) (Option.some Jvm.ClassFile.FieldType.int)) ∈ Tg := tg_6 (List.mem_of_getElem? (i := 164) rfl) rfl
theorem m1365 : (Jvm.Cond.methodLink "PathTimingModel" (293 : Nat) ({ cls := "PathTimingModel", name := "noBit", desc := "(I)Z" } : Jvm.MethodName)) ∈ Tg := tg_6 (List.mem_of_getElem? (i := 165) rfl) rfl
theorem m1366 : (Jvm.Cond.static ({ cls := "PathTimingModel", name := "noBit", desc := "(I)Z" } : Jvm.MethodName)) ∈ Tg := tg_6 (List.mem_of_getElem? (i := 166) rfl) rfl
theorem m1367 : (Jvm.Cond.code ({ cls := "PathTimingModel", name := "noBit", desc := "(I)Z" } : Jvm.MethodName) prog_12_method_46_code (1 : Nat) (Option.some Jvm.ClassFile.FieldType.boolean)) ∈ Tg := tg_6 (List.mem_of_getElem? (i := 167) rfl) rfl
theorem m1368 : (Jvm.Cond.methodLink "PathTimingLaw" (135 : Nat) ({ cls := "PathTimingModel", name := "slack", desc := "(II)I" } : Jvm.MethodName)) ∈ Tg := tg_6 (List.mem_of_getElem? (i := 168) rfl) rfl
theorem m1369 : (Jvm.Cond.instanceMethod ({ cls := "PathTimingModel", name := "slack", desc := "(II)I" } : Jvm.MethodName)) ∈ Tg := tg_6 (List.mem_of_getElem? (i := 169) rfl) rfl
theorem m1370 : (Jvm.Cond.selects "PathTimingModel" ({ cls := "PathTimingModel", name := "slack", desc := "(II)I" } : Jvm.MethodName) ({ cls := "PathTimingModel", name := "slack", desc := "(II)I" } : Jvm.MethodName)) ∈ Tg := tg_6 (List.mem_of_getElem? (i := 170) rfl) rfl
theorem m1371 : (Jvm.Cond.code ({ cls := "PathTimingModel", name := "slack", desc := "(II)I" } : Jvm.MethodName) prog_12_method_49_code (3 : Nat) (Option.some Jvm.ClassFile.FieldType.int)) ∈ Tg := tg_6 (List.mem_of_getElem? (i := 171) rfl) rfl
theorem m1372 : (Jvm.Cond.methodLink "PathTimingLaw" (138 : Nat) ({ cls := "PathTimingModel", name := "worst", desc := "(I)I" } : Jvm.MethodName)) ∈ Tg := tg_6 (List.mem_of_getElem? (i := 172) rfl) rfl
theorem m1373 : (Jvm.Cond.instanceMethod ({ cls := "PathTimingModel", name := "worst", desc := "(I)I" } : Jvm.MethodName)) ∈ Tg := tg_6 (List.mem_of_getElem? (i := 173) rfl) rfl
theorem m1374 : (Jvm.Cond.selects "PathTimingModel" ({ cls := "PathTimingModel", name := "worst", desc := "(I)I" } : Jvm.MethodName) ({ cls := "PathTimingModel", name := "worst", desc := "(I)I" } : Jvm.MethodName)) ∈ Tg := tg_6 (List.mem_of_getElem? (i := 174) rfl) rfl
theorem m1375 : (Jvm.Cond.code ({ cls := "PathTimingModel", name := "worst", desc := "(I)I" } : Jvm.MethodName) prog_12_method_50_code (5 : Nat) (Option.some Jvm.ClassFile.FieldType.int)) ∈ Tg := tg_6 (List.mem_of_getElem? (i := 175) rfl) rfl
theorem m1376 : (Jvm.Cond.methodLink "PathTimingLaw" (141 : Nat) ({ cls := "PathTimingModel", name := "total", desc := "(I)I" } : Jvm.MethodName)) ∈ Tg := tg_6 (List.mem_of_getElem? (i := 176) rfl) rfl
theorem m1377 : (Jvm.Cond.instanceMethod ({ cls := "PathTimingModel", name := "total", desc := "(I)I" } : Jvm.MethodName)) ∈ Tg := tg_6 (List.mem_of_getElem? (i := 177) rfl) rfl
theorem m1378 : (Jvm.Cond.selects "PathTimingModel" ({ cls := "PathTimingModel", name := "total", desc := "(I)I" } : Jvm.MethodName) ({ cls := "PathTimingModel", name := "total", desc := "(I)I" } : Jvm.MethodName)) ∈ Tg := tg_6 (List.mem_of_getElem? (i := 178) rfl) rfl
theorem m1379 : (Jvm.Cond.code ({ cls := "PathTimingModel", name := "total", desc := "(I)I" } : Jvm.MethodName) prog_12_method_51_code (5 : Nat) (Option.some Jvm.ClassFile.FieldType.int)) ∈ Tg := tg_6 (List.mem_of_getElem? (i := 179) rfl) rfl
theorem m1380 : (Jvm.Cond.methodLink "PathTimingLaw" (145 : Nat) ({ cls := "PathTimingModel", name := "leastPeriod", desc := "()I" } : Jvm.MethodName)) ∈ Tg := tg_6 (List.mem_of_getElem? (i := 180) rfl) rfl
theorem m1381 : (Jvm.Cond.instanceMethod ({ cls := "PathTimingModel", name := "leastPeriod", desc := "()I" } : Jvm.MethodName)) ∈ Tg := tg_6 (List.mem_of_getElem? (i := 181) rfl) rfl
theorem m1382 : (Jvm.Cond.selects "PathTimingModel" ({ cls := "PathTimingModel", name := "leastPeriod", desc := "()I" } : Jvm.MethodName) ({ cls := "PathTimingModel", name := "leastPeriod", desc := "()I" } : Jvm.MethodName)) ∈ Tg := tg_6 (List.mem_of_getElem? (i := 182) rfl) rfl
theorem m1383 : (Jvm.Cond.code ({ cls := "PathTimingModel", name := "leastPeriod", desc := "()I" } : Jvm.MethodName) prog_12_method_52_code (2 : Nat) (Option.some Jvm.ClassFile.FieldType.int)) ∈ Tg := tg_6 (List.mem_of_getElem? (i := 183) rfl) rfl
theorem m1384 : (Jvm.Cond.methodLink "PathTimingLaw" (148 : Nat) ({ cls := "PathTimingModel", name := "paths", desc := "()I" } : Jvm.MethodName)) ∈ Tg := tg_6 (List.mem_of_getElem? (i := 184) rfl) rfl
theorem m1385 : (Jvm.Cond.instanceMethod ({ cls := "PathTimingModel", name := "paths", desc := "()I" } : Jvm.MethodName)) ∈ Tg := tg_6 (List.mem_of_getElem? (i := 185) rfl) rfl
theorem m1386 : (Jvm.Cond.selects "PathTimingModel" ({ cls := "PathTimingModel", name := "paths", desc := "()I" } : Jvm.MethodName) ({ cls := "PathTimingModel", name := "paths", desc := "()I" } : Jvm.MethodName)) ∈ Tg := tg_6 (List.mem_of_getElem? (i := 186) rfl) rfl
theorem m1387 : (Jvm.Cond.code ({ cls := "PathTimingModel", name := "paths", desc := "()I" } : Jvm.MethodName) prog_12_method_53_code (1 : Nat) (Option.some Jvm.ClassFile.FieldType.int)) ∈ Tg := tg_6 (List.mem_of_getElem? (i := 187) rfl) rfl
theorem m1388 : (Jvm.Cond.methodLink "PathTimingLaw" (151 : Nat) ({ cls := "PathTimingModel", name := "path", desc := "(II)I" } : Jvm.MethodName)) ∈ Tg := tg_6 (List.mem_of_getElem? (i := 188) rfl) rfl
theorem m1389 : (Jvm.Cond.instanceMethod ({ cls := "PathTimingModel", name := "path", desc := "(II)I" } : Jvm.MethodName)) ∈ Tg := tg_6 (List.mem_of_getElem? (i := 189) rfl) rfl
theorem m1390 : (Jvm.Cond.selects "PathTimingModel" ({ cls := "PathTimingModel", name := "path", desc := "(II)I" } : Jvm.MethodName) ({ cls := "PathTimingModel", name := "path", desc := "(II)I" } : Jvm.MethodName)) ∈ Tg := tg_6 (List.mem_of_getElem? (i := 190) rfl) rfl
theorem m1391 : (Jvm.Cond.code ({ cls := "PathTimingModel", name := "path", desc := "(II)I" } : Jvm.MethodName) prog_12_method_55_code (3 : Nat) (Option.some Jvm.ClassFile.FieldType.int)) ∈ Tg := tg_6 (List.mem_of_getElem? (i := 191) rfl) rfl
theorem m1392 : (Jvm.Cond.methodLink "PathTimingModel" (296 : Nat) ({ cls := "PathTimingModel", name := "refused", desc := "(II)I" } : Jvm.MethodName)) ∈ Tg := tg_6 (List.mem_of_getElem? (i := 192) rfl) rfl
theorem m1394 : (Jvm.Cond.instanceMethod ({ cls := "PathTimingModel", name := "refused", desc := "(II)I" } : Jvm.MethodName)) ∈ Tg := tg_6 (List.mem_of_getElem? (i := 194) rfl) rfl
theorem m1395 : (Jvm.Cond.code ({ cls := "PathTimingModel", name := "refused", desc := "(II)I" } : Jvm.MethodName) prog_12_method_54_code (3 : Nat) (Option.some Jvm.ClassFile.FieldType.int)) ∈ Tg := tg_6 (List.mem_of_getElem? (i := 195) rfl) rfl
theorem m1396 : (Jvm.Cond.methodLink "PathTimingLaw" (155 : Nat) ({ cls := "PathTimingModel", name := "element", desc := "(III)I" } : Jvm.MethodName)) ∈ Tg := tg_6 (List.mem_of_getElem? (i := 196) rfl) rfl
theorem m1397 : (Jvm.Cond.instanceMethod ({ cls := "PathTimingModel", name := "element", desc := "(III)I" } : Jvm.MethodName)) ∈ Tg := tg_6 (List.mem_of_getElem? (i := 197) rfl) rfl
theorem m1398 : (Jvm.Cond.selects "PathTimingModel" ({ cls := "PathTimingModel", name := "element", desc := "(III)I" } : Jvm.MethodName) ({ cls := "PathTimingModel", name := "element", desc := "(III)I" } : Jvm.MethodName)) ∈ Tg := tg_6 (List.mem_of_getElem? (i := 198) rfl) rfl
theorem m1399 : (Jvm.Cond.code ({ cls := "PathTimingModel", name := "element", desc := "(III)I" } : Jvm.MethodName) prog_12_method_56_code (4 : Nat) (Option.some Jvm.ClassFile.FieldType.int)) ∈ Tg := tg_6 (List.mem_of_getElem? (i := 199) rfl) rfl
theorem sl_T_addNode : Cond.selects "PathTiming" ⟨"PathTiming", "addNode", "(II)I"⟩ ⟨"PathTiming", "addNode", "(II)I"⟩ ∈ Tg := List.mem_filter.mpr ⟨List.mem_append_left _ (List.mem_of_getElem? (i := 0) rfl), rfl⟩
theorem sl_GateOrder_findLeading : Cond.selects "PathTiming$GateOrder" ⟨"PathTiming$GateOrder", "findLeading", "()V"⟩ ⟨"PathTiming$GateOrder", "findLeading", "()V"⟩ ∈ Tg := List.mem_filter.mpr ⟨List.mem_append_left _ (List.mem_of_getElem? (i := 1) rfl), rfl⟩
theorem sl_GateOrder_gatesWiredTo : Cond.selects "PathTiming$GateOrder" ⟨"PathTiming$GateOrder", "gatesWiredTo", "(I)J"⟩ ⟨"PathTiming$GateOrder", "gatesWiredTo", "(I)J"⟩ ∈ Tg := List.mem_filter.mpr ⟨List.mem_append_left _ (List.mem_of_getElem? (i := 2) rfl), rfl⟩
theorem sl_ClockWays_isTangled : Cond.selects "PathTiming$ClockWays" ⟨"PathTiming$ClockWays", "isTangled", "()Z"⟩ ⟨"PathTiming$ClockWays", "isTangled", "()Z"⟩ ∈ Tg := List.mem_filter.mpr ⟨List.mem_append_left _ (List.mem_of_getElem? (i := 3) rfl), rfl⟩
theorem sl_Spread_spreadBy : Cond.selects "PathTiming$Spread" ⟨"PathTiming$Spread", "spreadBy", "(II)V"⟩ ⟨"PathTiming$Spread", "spreadBy", "(II)V"⟩ ∈ Tg := List.mem_filter.mpr ⟨List.mem_append_left _ (List.mem_of_getElem? (i := 4) rfl), rfl⟩
theorem sl_ClockWays_markNeeded : Cond.selects "PathTiming$ClockWays" ⟨"PathTiming$ClockWays", "markNeeded", "()V"⟩ ⟨"PathTiming$ClockWays", "markNeeded", "()V"⟩ ∈ Tg := List.mem_filter.mpr ⟨List.mem_append_left _ (List.mem_of_getElem? (i := 5) rfl), rfl⟩
theorem sl_ClockWays_markNeededBy : Cond.selects "PathTiming$ClockWays" ⟨"PathTiming$ClockWays", "markNeededBy", "(II)V"⟩ ⟨"PathTiming$ClockWays", "markNeededBy", "(II)V"⟩ ∈ Tg := List.mem_filter.mpr ⟨List.mem_append_left _ (List.mem_of_getElem? (i := 6) rfl), rfl⟩
theorem sl_ClockWays_growTree : Cond.selects "PathTiming$ClockWays" ⟨"PathTiming$ClockWays", "growTree", "()V"⟩ ⟨"PathTiming$ClockWays", "growTree", "()V"⟩ ∈ Tg := List.mem_filter.mpr ⟨List.mem_append_left _ (List.mem_of_getElem? (i := 7) rfl), rfl⟩
theorem sl_ClockWays_grow : Cond.selects "PathTiming$ClockWays" ⟨"PathTiming$ClockWays", "grow", "(IIIII)V"⟩ ⟨"PathTiming$ClockWays", "grow", "(IIIII)V"⟩ ∈ Tg := List.mem_filter.mpr ⟨List.mem_append_left _ (List.mem_of_getElem? (i := 8) rfl), rfl⟩
theorem sl_ClockWays_growBy : Cond.selects "PathTiming$ClockWays" ⟨"PathTiming$ClockWays", "growBy", "(III)V"⟩ ⟨"PathTiming$ClockWays", "growBy", "(III)V"⟩ ∈ Tg := List.mem_filter.mpr ⟨List.mem_append_left _ (List.mem_of_getElem? (i := 9) rfl), rfl⟩
theorem sl_ClockWays_gather : Cond.selects "PathTiming$ClockWays" ⟨"PathTiming$ClockWays", "gather", "(I)V"⟩ ⟨"PathTiming$ClockWays", "gather", "(I)V"⟩ ∈ Tg := List.mem_filter.mpr ⟨List.mem_append_left _ (List.mem_of_getElem? (i := 10) rfl), rfl⟩
theorem sl_ClockWays_baseOf : Cond.selects "PathTiming$ClockWays" ⟨"PathTiming$ClockWays", "baseOf", "(I)I"⟩ ⟨"PathTiming$ClockWays", "baseOf", "(I)I"⟩ ∈ Tg := List.mem_filter.mpr ⟨List.mem_append_left _ (List.mem_of_getElem? (i := 11) rfl), rfl⟩
theorem sl_ClockWays_addWay : Cond.selects "PathTiming$ClockWays" ⟨"PathTiming$ClockWays", "addWay", "(IIIII)V"⟩ ⟨"PathTiming$ClockWays", "addWay", "(IIIII)V"⟩ ∈ Tg := List.mem_filter.mpr ⟨List.mem_append_left _ (List.mem_of_getElem? (i := 12) rfl), rfl⟩
theorem sl_Arrivals_begin : Cond.selects "PathTiming$Arrivals" ⟨"PathTiming$Arrivals", "begin", "(II)V"⟩ ⟨"PathTiming$Arrivals", "begin", "(II)V"⟩ ∈ Tg := List.mem_filter.mpr ⟨List.mem_append_left _ (List.mem_of_getElem? (i := 13) rfl), rfl⟩
theorem sl_Slacks_reckonPair : Cond.selects "PathTiming$Slacks" ⟨"PathTiming$Slacks", "reckonPair", "(II)V"⟩ ⟨"PathTiming$Slacks", "reckonPair", "(II)V"⟩ ∈ Tg := List.mem_filter.mpr ⟨List.mem_append_left _ (List.mem_of_getElem? (i := 14) rfl), rfl⟩
theorem sl_Rooms_measurePair : Cond.selects "PathTiming$Rooms" ⟨"PathTiming$Rooms", "measurePair", "(IIII)V"⟩ ⟨"PathTiming$Rooms", "measurePair", "(IIII)V"⟩ ∈ Tg := List.mem_filter.mpr ⟨List.mem_append_left _ (List.mem_of_getElem? (i := 15) rfl), rfl⟩
theorem sl_ClockWays_sharedEnd : Cond.selects "PathTiming$ClockWays" ⟨"PathTiming$ClockWays", "sharedEnd", "(II)I"⟩ ⟨"PathTiming$ClockWays", "sharedEnd", "(II)I"⟩ ∈ Tg := List.mem_filter.mpr ⟨List.mem_append_left _ (List.mem_of_getElem? (i := 16) rfl), rfl⟩
theorem sl_Slacks_keepLeast : Cond.selects "PathTiming$Slacks" ⟨"PathTiming$Slacks", "keepLeast", "(III)V"⟩ ⟨"PathTiming$Slacks", "keepLeast", "(III)V"⟩ ∈ Tg := List.mem_filter.mpr ⟨List.mem_append_left _ (List.mem_of_getElem? (i := 17) rfl), rfl⟩
theorem sl_T_needAnalysis : Cond.selects "PathTiming" ⟨"PathTiming", "needAnalysis", "()V"⟩ ⟨"PathTiming", "needAnalysis", "()V"⟩ ∈ Tg := List.mem_filter.mpr ⟨List.mem_append_left _ (List.mem_of_getElem? (i := 19) rfl), rfl⟩
theorem sl_T_needPath : Cond.selects "PathTiming" ⟨"PathTiming", "needPath", "(II)V"⟩ ⟨"PathTiming", "needPath", "(II)V"⟩ ∈ Tg := List.mem_filter.mpr ⟨List.mem_append_left _ (List.mem_of_getElem? (i := 20) rfl), rfl⟩
theorem sl_WorstPaths_collectTo : Cond.selects "PathTiming$WorstPaths" ⟨"PathTiming$WorstPaths", "collectTo", "(I)V"⟩ ⟨"PathTiming$WorstPaths", "collectTo", "(I)V"⟩ ∈ Tg := List.mem_filter.mpr ⟨List.mem_append_left _ (List.mem_of_getElem? (i := 21) rfl), rfl⟩
theorem sl_WorstPaths_goBack : Cond.selects "PathTiming$WorstPaths" ⟨"PathTiming$WorstPaths", "goBack", "(IIII)V"⟩ ⟨"PathTiming$WorstPaths", "goBack", "(IIII)V"⟩ ∈ Tg := List.mem_filter.mpr ⟨List.mem_append_left _ (List.mem_of_getElem? (i := 22) rfl), rfl⟩
theorem sl_WorstPaths_offerAll : Cond.selects "PathTiming$WorstPaths" ⟨"PathTiming$WorstPaths", "offerAll", "(IIII)V"⟩ ⟨"PathTiming$WorstPaths", "offerAll", "(IIII)V"⟩ ∈ Tg := List.mem_filter.mpr ⟨List.mem_append_left _ (List.mem_of_getElem? (i := 23) rfl), rfl⟩
theorem sl_WorstPaths_writeRow : Cond.selects "PathTiming$WorstPaths" ⟨"PathTiming$WorstPaths", "writeRow", "(IIII)I"⟩ ⟨"PathTiming$WorstPaths", "writeRow", "(IIII)I"⟩ ∈ Tg := List.mem_filter.mpr ⟨List.mem_append_left _ (List.mem_of_getElem? (i := 24) rfl), rfl⟩
theorem sl_PathList_comesBefore : Cond.selects "PathTiming$PathList" ⟨"PathTiming$PathList", "comesBefore", "(I[III)Z"⟩ ⟨"PathTiming$PathList", "comesBefore", "(I[III)Z"⟩ ∈ Tg := List.mem_filter.mpr ⟨List.mem_append_left _ (List.mem_of_getElem? (i := 25) rfl), rfl⟩
theorem sl_PathList_takeSlot : Cond.selects "PathTiming$PathList" ⟨"PathTiming$PathList", "takeSlot", "()I"⟩ ⟨"PathTiming$PathList", "takeSlot", "()I"⟩ ∈ Tg := List.mem_filter.mpr ⟨List.mem_append_left _ (List.mem_of_getElem? (i := 26) rfl), rfl⟩
theorem sl_WorstPaths_leads : Cond.selects "PathTiming$WorstPaths" ⟨"PathTiming$WorstPaths", "leads", "(III)Z"⟩ ⟨"PathTiming$WorstPaths", "leads", "(III)Z"⟩ ∈ Tg := List.mem_filter.mpr ⟨List.mem_append_left _ (List.mem_of_getElem? (i := 27) rfl), rfl⟩
theorem sl_M_clearNode : Cond.selects "PathTimingModel" ⟨"PathTimingModel", "clearNode", "(III)V"⟩ ⟨"PathTimingModel", "clearNode", "(III)V"⟩ ∈ Tg := List.mem_filter.mpr ⟨List.mem_append_left _ (List.mem_of_getElem? (i := 28) rfl), rfl⟩
theorem sl_M_add : Cond.selects "PathTimingModel" ⟨"PathTimingModel", "add", "(II)I"⟩ ⟨"PathTimingModel", "add", "(II)I"⟩ ∈ Tg := List.mem_filter.mpr ⟨List.mem_append_left _ (List.mem_of_getElem? (i := 29) rfl), rfl⟩
theorem sl_M_noPin : Cond.selects "PathTimingModel" ⟨"PathTimingModel", "noPin", "(II)Z"⟩ ⟨"PathTimingModel", "noPin", "(II)Z"⟩ ∈ Tg := List.mem_filter.mpr ⟨List.mem_append_left _ (List.mem_of_getElem? (i := 30) rfl), rfl⟩
theorem sl_M_isEnd : Cond.selects "PathTimingModel" ⟨"PathTimingModel", "isEnd", "(I)Z"⟩ ⟨"PathTimingModel", "isEnd", "(I)Z"⟩ ∈ Tg := List.mem_filter.mpr ⟨List.mem_append_left _ (List.mem_of_getElem? (i := 31) rfl), rfl⟩
theorem sl_M_isGate : Cond.selects "PathTimingModel" ⟨"PathTimingModel", "isGate", "(I)Z"⟩ ⟨"PathTimingModel", "isGate", "(I)Z"⟩ ∈ Tg := List.mem_filter.mpr ⟨List.mem_append_left _ (List.mem_of_getElem? (i := 32) rfl), rfl⟩
theorem sl_M_isRound : Cond.selects "PathTimingModel" ⟨"PathTimingModel", "isRound", "(I)Z"⟩ ⟨"PathTimingModel", "isRound", "(I)Z"⟩ ∈ Tg := List.mem_filter.mpr ⟨List.mem_append_left _ (List.mem_of_getElem? (i := 33) rfl), rfl⟩
theorem sl_M_sort : Cond.selects "PathTimingModel" ⟨"PathTimingModel", "sort", "()V"⟩ ⟨"PathTimingModel", "sort", "()V"⟩ ∈ Tg := List.mem_filter.mpr ⟨List.mem_append_left _ (List.mem_of_getElem? (i := 34) rfl), rfl⟩
theorem sl_M_countClock : Cond.selects "PathTimingModel" ⟨"PathTimingModel", "countClock", "()V"⟩ ⟨"PathTimingModel", "countClock", "()V"⟩ ∈ Tg := List.mem_filter.mpr ⟨List.mem_append_left _ (List.mem_of_getElem? (i := 35) rfl), rfl⟩
theorem sl_M_lets : Cond.selects "PathTimingModel" ⟨"PathTimingModel", "lets", "(IIII)Z"⟩ ⟨"PathTimingModel", "lets", "(IIII)Z"⟩ ∈ Tg := List.mem_filter.mpr ⟨List.mem_append_left _ (List.mem_of_getElem? (i := 36) rfl), rfl⟩
theorem sl_M_findWays : Cond.selects "PathTimingModel" ⟨"PathTimingModel", "findWays", "(I)V"⟩ ⟨"PathTimingModel", "findWays", "(I)V"⟩ ∈ Tg := List.mem_filter.mpr ⟨List.mem_append_left _ (List.mem_of_getElem? (i := 37) rfl), rfl⟩
theorem sl_M_keepWay : Cond.selects "PathTimingModel" ⟨"PathTimingModel", "keepWay", "(II)V"⟩ ⟨"PathTimingModel", "keepWay", "(II)V"⟩ ∈ Tg := List.mem_filter.mpr ⟨List.mem_append_left _ (List.mem_of_getElem? (i := 38) rfl), rfl⟩
theorem sl_M_clearAll : Cond.selects "PathTimingModel" ⟨"PathTimingModel", "clearAll", "()V"⟩ ⟨"PathTimingModel", "clearAll", "()V"⟩ ∈ Tg := List.mem_filter.mpr ⟨List.mem_append_left _ (List.mem_of_getElem? (i := 39) rfl), rfl⟩
theorem sl_M_countGoals : Cond.selects "PathTimingModel" ⟨"PathTimingModel", "countGoals", "()V"⟩ ⟨"PathTimingModel", "countGoals", "()V"⟩ ∈ Tg := List.mem_filter.mpr ⟨List.mem_append_left _ (List.mem_of_getElem? (i := 40) rfl), rfl⟩
theorem sl_M_starts : Cond.selects "PathTimingModel" ⟨"PathTimingModel", "starts", "(I)I"⟩ ⟨"PathTimingModel", "starts", "(I)I"⟩ ∈ Tg := List.mem_filter.mpr ⟨List.mem_append_left _ (List.mem_of_getElem? (i := 41) rfl), rfl⟩
theorem sl_M_setStart : Cond.selects "PathTimingModel" ⟨"PathTimingModel", "setStart", "(II)V"⟩ ⟨"PathTimingModel", "setStart", "(II)V"⟩ ∈ Tg := List.mem_filter.mpr ⟨List.mem_append_left _ (List.mem_of_getElem? (i := 42) rfl), rfl⟩
theorem sl_M_fromStart : Cond.selects "PathTimingModel" ⟨"PathTimingModel", "fromStart", "()V"⟩ ⟨"PathTimingModel", "fromStart", "()V"⟩ ∈ Tg := List.mem_filter.mpr ⟨List.mem_append_left _ (List.mem_of_getElem? (i := 43) rfl), rfl⟩
theorem sl_M_lead : Cond.selects "PathTimingModel" ⟨"PathTimingModel", "lead", "()V"⟩ ⟨"PathTimingModel", "lead", "()V"⟩ ∈ Tg := List.mem_filter.mpr ⟨List.mem_append_left _ (List.mem_of_getElem? (i := 44) rfl), rfl⟩
theorem sl_M_clearStart : Cond.selects "PathTimingModel" ⟨"PathTimingModel", "clearStart", "()V"⟩ ⟨"PathTimingModel", "clearStart", "()V"⟩ ∈ Tg := List.mem_filter.mpr ⟨List.mem_append_left _ (List.mem_of_getElem? (i := 45) rfl), rfl⟩
theorem sl_M_reach : Cond.selects "PathTimingModel" ⟨"PathTimingModel", "reach", "(III)V"⟩ ⟨"PathTimingModel", "reach", "(III)V"⟩ ∈ Tg := List.mem_filter.mpr ⟨List.mem_append_left _ (List.mem_of_getElem? (i := 46) rfl), rfl⟩
theorem sl_M_arrive : Cond.selects "PathTimingModel" ⟨"PathTimingModel", "arrive", "(IIII)V"⟩ ⟨"PathTimingModel", "arrive", "(IIII)V"⟩ ∈ Tg := List.mem_filter.mpr ⟨List.mem_append_left _ (List.mem_of_getElem? (i := 47) rfl), rfl⟩
theorem sl_M_finishAt : Cond.selects "PathTimingModel" ⟨"PathTimingModel", "finishAt", "(I)V"⟩ ⟨"PathTimingModel", "finishAt", "(I)V"⟩ ∈ Tg := List.mem_filter.mpr ⟨List.mem_append_left _ (List.mem_of_getElem? (i := 48) rfl), rfl⟩
theorem sl_M_meet : Cond.selects "PathTimingModel" ⟨"PathTimingModel", "meet", "(IIIII)V"⟩ ⟨"PathTimingModel", "meet", "(IIIII)V"⟩ ∈ Tg := List.mem_filter.mpr ⟨List.mem_append_left _ (List.mem_of_getElem? (i := 49) rfl), rfl⟩
theorem sl_M_slackOf : Cond.selects "PathTimingModel" ⟨"PathTimingModel", "slackOf", "(IIIIII)I"⟩ ⟨"PathTimingModel", "slackOf", "(IIIIII)I"⟩ ∈ Tg := List.mem_filter.mpr ⟨List.mem_append_left _ (List.mem_of_getElem? (i := 50) rfl), rfl⟩
theorem sl_M_edge : Cond.selects "PathTimingModel" ⟨"PathTimingModel", "edge", "(I)I"⟩ ⟨"PathTimingModel", "edge", "(I)I"⟩ ∈ Tg := List.mem_filter.mpr ⟨List.mem_append_left _ (List.mem_of_getElem? (i := 51) rfl), rfl⟩
theorem sl_M_credit : Cond.selects "PathTimingModel" ⟨"PathTimingModel", "credit", "(I)I"⟩ ⟨"PathTimingModel", "credit", "(I)I"⟩ ∈ Tg := List.mem_filter.mpr ⟨List.mem_append_left _ (List.mem_of_getElem? (i := 52) rfl), rfl⟩
theorem sl_M_walk : Cond.selects "PathTimingModel" ⟨"PathTimingModel", "walk", "()V"⟩ ⟨"PathTimingModel", "walk", "()V"⟩ ∈ Tg := List.mem_filter.mpr ⟨List.mem_append_left _ (List.mem_of_getElem? (i := 53) rfl), rfl⟩
theorem sl_M_startRow : Cond.selects "PathTimingModel" ⟨"PathTimingModel", "startRow", "()I"⟩ ⟨"PathTimingModel", "startRow", "()I"⟩ ∈ Tg := List.mem_filter.mpr ⟨List.mem_append_left _ (List.mem_of_getElem? (i := 54) rfl), rfl⟩
theorem sl_M_endAll : Cond.selects "PathTimingModel" ⟨"PathTimingModel", "endAll", "(IIIII)V"⟩ ⟨"PathTimingModel", "endAll", "(IIIII)V"⟩ ∈ Tg := List.mem_filter.mpr ⟨List.mem_append_left _ (List.mem_of_getElem? (i := 55) rfl), rfl⟩
theorem sl_M_end : Cond.selects "PathTimingModel" ⟨"PathTimingModel", "end", "(IIIIII)V"⟩ ⟨"PathTimingModel", "end", "(IIIIII)V"⟩ ∈ Tg := List.mem_filter.mpr ⟨List.mem_append_left _ (List.mem_of_getElem? (i := 56) rfl), rfl⟩
theorem sl_M_list : Cond.selects "PathTimingModel" ⟨"PathTimingModel", "list", "(II)V"⟩ ⟨"PathTimingModel", "list", "(II)V"⟩ ∈ Tg := List.mem_filter.mpr ⟨List.mem_append_left _ (List.mem_of_getElem? (i := 57) rfl), rfl⟩
theorem sl_M_isBefore : Cond.selects "PathTimingModel" ⟨"PathTimingModel", "isBefore", "(II)Z"⟩ ⟨"PathTimingModel", "isBefore", "(II)Z"⟩ ∈ Tg := List.mem_filter.mpr ⟨List.mem_append_left _ (List.mem_of_getElem? (i := 58) rfl), rfl⟩
theorem sl_M_refused : Cond.selects "PathTimingModel" ⟨"PathTimingModel", "refused", "(II)I"⟩ ⟨"PathTimingModel", "refused", "(II)I"⟩ ∈ Tg := List.mem_filter.mpr ⟨List.mem_append_left _ (List.mem_of_getElem? (i := 59) rfl), rfl⟩
theorem tg_good {w : Cond} (h : w ∈ Tg) : (w.onTables && w.keeps) = true ∨ ∃ ty, w = .arrayClass ty := good_of_word (List.mem_filter.mp h).2
theorem gd_in {cx cy : Cond} (hy : cy ∈ Tg) : GoodIn (cx :: Tg) (cy :: Tg) := fun w hw => by
  rcases List.mem_cons.mp hw with rfl | h
  · exact ⟨List.mem_cons_of_mem _ hy, tg_good hy⟩
  · exact ⟨List.mem_cons_of_mem _ h, tg_good h⟩
theorem gd_V {cx cy : Cond} {own C : String} {idx : Nat} {y : MethodName} (hy : cy ∈ Tg) (h1 : Cond.methodLink own idx y ∈ Tg) (h2 : Cond.instanceMethod y ∈ Tg) (h3 : Cond.selects C y y ∈ Tg) (h4 : Cond.initialized C ∈ Tg) : GoodIn (cx :: Tg) (wsV own idx C y (cy :: Tg)) := fun w hw => by
  rcases List.mem_append.mp hw with h | h
  · simp only [List.mem_cons, List.not_mem_nil, or_false] at h
    rcases h with rfl | rfl | rfl | rfl
    · exact ⟨List.mem_cons_of_mem _ h1, tg_good h1⟩
    · exact ⟨List.mem_cons_of_mem _ h2, tg_good h2⟩
    · exact ⟨List.mem_cons_of_mem _ h3, tg_good h3⟩
    · exact ⟨List.mem_cons_of_mem _ h4, tg_good h4⟩
  · exact gd_in hy w h
theorem gd_S {cx cy : Cond} {own : String} {idx : Nat} {y : MethodName} (hy : cy ∈ Tg) (h1 : Cond.methodLink own idx y ∈ Tg) (h2 : Cond.static y ∈ Tg) (h4 : Cond.initialized own ∈ Tg) : GoodIn (cx :: Tg) (wsS own idx y (cy :: Tg)) := fun w hw => by
  rcases List.mem_append.mp hw with h | h
  · simp only [List.mem_cons, List.not_mem_nil, or_false] at h
    rcases h with rfl | rfl | rfl
    · exact ⟨List.mem_cons_of_mem _ h1, tg_good h1⟩
    · exact ⟨List.mem_cons_of_mem _ h2, tg_good h2⟩
    · exact ⟨List.mem_cons_of_mem _ h4, tg_good h4⟩
  · exact gd_in hy w h
theorem gd_O {cx cy : Cond} {own : String} {idx : Nat} {y : MethodName} (hy : cy ∈ Tg) (h1 : Cond.methodLink own idx y ∈ Tg) (h2 : Cond.static y ∈ Tg) (h4 : Cond.initialized y.cls ∈ Tg) : GoodIn (cx :: Tg) (va_wsS own idx y (cy :: Tg)) := fun w hw => by
  rcases List.mem_append.mp hw with h | h
  · simp only [List.mem_cons, List.not_mem_nil, or_false] at h
    rcases h with rfl | rfl | rfl
    · exact ⟨List.mem_cons_of_mem _ h1, tg_good h1⟩
    · exact ⟨List.mem_cons_of_mem _ h2, tg_good h2⟩
    · exact ⟨List.mem_cons_of_mem _ h4, tg_good h4⟩
  · exact gd_in hy w h
