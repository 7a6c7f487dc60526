/-! the words of the tables that the constructors need (printed by wip/whole/mk71.py) -/
set_option maxRecDepth 100000 in
theorem nw_2 : (Jvm.Cond.initialized "PrickedPages$Text") ∈ q_tbl := q_t 2 rfl rfl
set_option maxRecDepth 100000 in
theorem nw_3 : (Jvm.Cond.initialized "java/lang/Math") ∈ q_tbl := q_t 3 rfl rfl
set_option maxRecDepth 100000 in
theorem nw_4 : (Jvm.Cond.initialized "PrickedPages$WordList") ∈ q_tbl := q_t 4 rfl rfl
set_option maxRecDepth 100000 in
theorem nw_5 : (Jvm.Cond.initialized "PrickedPages$Slips") ∈ q_tbl := q_t 5 rfl rfl
set_option maxRecDepth 100000 in
theorem nw_7 : (Jvm.Cond.initialized "PrickedPages$Sheet") ∈ q_tbl := q_t 7 rfl rfl
set_option maxRecDepth 100000 in
theorem nw_11 : (Jvm.Cond.classLink "PrickedPagesLaw" (7 : Nat) "PrickedPages") ∈ q_tbl := q_t 11 rfl rfl
set_option maxRecDepth 100000 in
theorem nw_12 : (Jvm.Cond.instantiable "PrickedPages" (14 : Nat)) ∈ q_tbl := q_t 12 rfl rfl
set_option maxRecDepth 100000 in
theorem nw_13 : (Jvm.Cond.methodLink "PrickedPagesLaw" (9 : Nat) ({ cls := "PrickedPages", name := "<init>", desc := "()V" } : Jvm.MethodName)) ∈ q_tbl := q_t 13 rfl rfl
set_option maxRecDepth 100000 in
theorem nw_14 : (Jvm.Cond.instanceMethod ({ cls := "PrickedPages", name := "<init>", desc := "()V" } : Jvm.MethodName)) ∈ q_tbl := q_t 14 rfl rfl
set_option maxRecDepth 100000 in
theorem nw_15 : (Jvm.Cond.code ({ cls := "PrickedPages", name := "<init>", desc := "()V" } : Jvm.MethodName) prog_1_method_1_code (2 : Nat) (Option.none : Option Jvm.ClassFile.FieldType)) ∈ q_tbl := q_t 15 rfl rfl
set_option maxRecDepth 100000 in
theorem nw_16 : (Jvm.Cond.methodLink "PrickedPages" (1 : Nat) ({ cls := "java/lang/Object", name := "<init>", desc := "()V" } : Jvm.MethodName)) ∈ q_tbl := q_t 16 rfl rfl
set_option maxRecDepth 100000 in
theorem nw_17 : (Jvm.Cond.instanceMethod ({ cls := "java/lang/Object", name := "<init>", desc := "()V" } : Jvm.MethodName)) ∈ q_tbl := q_t 17 rfl rfl
set_option maxRecDepth 100000 in
theorem nw_18 : (Jvm.Cond.code ({ cls := "java/lang/Object", name := "<init>", desc := "()V" } : Jvm.MethodName) object_method_1_code (1 : Nat) (Option.none : Option Jvm.ClassFile.FieldType)) ∈ q_tbl := q_t 18 rfl rfl
set_option maxRecDepth 100000 in
theorem nw_19 : (Jvm.Cond.classLink "PrickedPages" (7 : Nat) "PrickedPages$Text") ∈ q_tbl := q_t 19 rfl rfl
set_option maxRecDepth 100000 in
theorem nw_20 : (Jvm.Cond.instantiable "PrickedPages$Text" (2 : Nat)) ∈ q_tbl := q_t 20 rfl rfl
set_option maxRecDepth 100000 in
theorem nw_22 : (Jvm.Cond.instanceMethod ({ cls := "PrickedPages$Text", name := "<init>", desc := "(I)V" } : Jvm.MethodName)) ∈ q_tbl := q_t 22 rfl rfl
set_option maxRecDepth 100000 in
theorem nw_23 : (Jvm.Cond.code ({ cls := "PrickedPages$Text", name := "<init>", desc := "(I)V" } : Jvm.MethodName) prog_4_method_1_code (2 : Nat) (Option.none : Option Jvm.ClassFile.FieldType)) ∈ q_tbl := q_t 23 rfl rfl
set_option maxRecDepth 100000 in
theorem nw_24 : (Jvm.Cond.methodLink "PrickedPages$Text" (1 : Nat) ({ cls := "java/lang/Object", name := "<init>", desc := "()V" } : Jvm.MethodName)) ∈ q_tbl := q_t 24 rfl rfl
set_option maxRecDepth 100000 in
theorem nw_25 : (Jvm.Cond.methodLink "PrickedPages$Text" (7 : Nat) ({ cls := "java/lang/Math", name := "max", desc := "(II)I" } : Jvm.MethodName)) ∈ q_tbl := q_t 25 rfl rfl
set_option maxRecDepth 100000 in
theorem nw_26 : (Jvm.Cond.static ({ cls := "java/lang/Math", name := "max", desc := "(II)I" } : Jvm.MethodName)) ∈ q_tbl := q_t 26 rfl rfl
set_option maxRecDepth 100000 in
theorem nw_27 : (Jvm.Cond.code ({ cls := "java/lang/Math", name := "max", desc := "(II)I" } : Jvm.MethodName) prog_10_method_65_code (2 : Nat) (Option.some Jvm.ClassFile.FieldType.int)) ∈ q_tbl := q_t 27 rfl rfl
set_option maxRecDepth 100000 in
theorem nw_28 : (Jvm.Cond.fieldLink "PrickedPages$Text" (13 : Nat) "PrickedPages$Text" "bytes" "[I") ∈ q_tbl := q_t 28 rfl rfl
set_option maxRecDepth 100000 in
theorem nw_39 : (Jvm.Cond.arrayClass Jvm.ClassFile.FieldType.int) ∈ q_tbl := q_t 39 rfl rfl
set_option maxRecDepth 100000 in
theorem nw_40 : (Jvm.Cond.classLink "PrickedPages" (18 : Nat) "PrickedPages$WordList") ∈ q_tbl := q_t 40 rfl rfl
set_option maxRecDepth 100000 in
theorem nw_41 : (Jvm.Cond.instantiable "PrickedPages$WordList" (5 : Nat)) ∈ q_tbl := q_t 41 rfl rfl
set_option maxRecDepth 100000 in
theorem nw_43 : (Jvm.Cond.instanceMethod ({ cls := "PrickedPages$WordList", name := "<init>", desc := "()V" } : Jvm.MethodName)) ∈ q_tbl := q_t 43 rfl rfl
set_option maxRecDepth 100000 in
theorem nw_44 : (Jvm.Cond.code ({ cls := "PrickedPages$WordList", name := "<init>", desc := "()V" } : Jvm.MethodName) prog_5_method_1_code (1 : Nat) (Option.none : Option Jvm.ClassFile.FieldType)) ∈ q_tbl := q_t 44 rfl rfl
set_option maxRecDepth 100000 in
theorem nw_45 : (Jvm.Cond.methodLink "PrickedPages$WordList" (3 : Nat) ({ cls := "java/lang/Object", name := "<init>", desc := "()V" } : Jvm.MethodName)) ∈ q_tbl := q_t 45 rfl rfl
set_option maxRecDepth 100000 in
theorem nw_46 : (Jvm.Cond.classLink "PrickedPages$WordList" (9 : Nat) "PrickedPages$Text") ∈ q_tbl := q_t 46 rfl rfl
set_option maxRecDepth 100000 in
theorem nw_48 : (Jvm.Cond.fieldLink "PrickedPages$WordList" (14 : Nat) "PrickedPages$WordList" "text" "LPrickedPages$Text;") ∈ q_tbl := q_t 48 rfl rfl
set_option maxRecDepth 100000 in
theorem nw_50 : (Jvm.Cond.fieldLink "PrickedPages$WordList" (20 : Nat) "PrickedPages$WordList" "letters" "[I") ∈ q_tbl := q_t 50 rfl rfl
set_option maxRecDepth 100000 in
theorem nw_51 : (Jvm.Cond.fieldLink "PrickedPages$WordList" (24 : Nat) "PrickedPages$WordList" "lengths" "[I") ∈ q_tbl := q_t 51 rfl rfl
set_option maxRecDepth 100000 in
theorem nw_54 : (Jvm.Cond.fieldLink "PrickedPages$WordList" (27 : Nat) "PrickedPages$WordList" "faultPlace" "I") ∈ q_tbl := q_t 54 rfl rfl
set_option maxRecDepth 100000 in
theorem nw_67 : (Jvm.Cond.classLink "PrickedPages" (25 : Nat) "PrickedPages$Slips") ∈ q_tbl := q_t 67 rfl rfl
set_option maxRecDepth 100000 in
theorem nw_68 : (Jvm.Cond.instantiable "PrickedPages$Slips" (4 : Nat)) ∈ q_tbl := q_t 68 rfl rfl
set_option maxRecDepth 100000 in
theorem nw_70 : (Jvm.Cond.instanceMethod ({ cls := "PrickedPages$Slips", name := "<init>", desc := "()V" } : Jvm.MethodName)) ∈ q_tbl := q_t 70 rfl rfl
set_option maxRecDepth 100000 in
theorem nw_71 : (Jvm.Cond.code ({ cls := "PrickedPages$Slips", name := "<init>", desc := "()V" } : Jvm.MethodName) prog_3_method_1_code (1 : Nat) (Option.none : Option Jvm.ClassFile.FieldType)) ∈ q_tbl := q_t 71 rfl rfl
set_option maxRecDepth 100000 in
theorem nw_72 : (Jvm.Cond.methodLink "PrickedPages$Slips" (3 : Nat) ({ cls := "java/lang/Object", name := "<init>", desc := "()V" } : Jvm.MethodName)) ∈ q_tbl := q_t 72 rfl rfl
set_option maxRecDepth 100000 in
theorem nw_73 : (Jvm.Cond.fieldLink "PrickedPages$Slips" (9 : Nat) "PrickedPages$Slips" "places" "[I") ∈ q_tbl := q_t 73 rfl rfl
set_option maxRecDepth 100000 in
theorem nw_74 : (Jvm.Cond.fieldLink "PrickedPages$Slips" (15 : Nat) "PrickedPages$Slips" "points" "[I") ∈ q_tbl := q_t 74 rfl rfl
set_option maxRecDepth 100000 in
theorem nw_75 : (Jvm.Cond.fieldLink "PrickedPages$Slips" (18 : Nat) "PrickedPages$Slips" "raised" "[I") ∈ q_tbl := q_t 75 rfl rfl
set_option maxRecDepth 100000 in
theorem nw_87 : (Jvm.Cond.fieldLink "PrickedPages" (32 : Nat) "PrickedPages" "FIRST_SIGNS" "[I") ∈ q_tbl := q_t 87 rfl rfl
set_option maxRecDepth 100000 in
theorem nw_89 : (Jvm.Cond.methodLink "PrickedPages" (36 : Nat) ({ cls := "[I", name := "clone", desc := "()Ljava/lang/Object;" } : Jvm.MethodName)) ∈ q_tbl := q_t 89 rfl rfl
set_option maxRecDepth 100000 in
theorem nw_90 : (Jvm.Cond.sameMethod "[I" "java/lang/Object" "clone" "()Ljava/lang/Object;") ∈ q_tbl := q_t 90 rfl rfl
set_option maxRecDepth 100000 in
theorem nw_91 : (Jvm.Cond.native ({ cls := "java/lang/Object", name := "clone", desc := "()Ljava/lang/Object;" } : Jvm.MethodName)) ∈ q_tbl := q_t 91 rfl rfl
set_option maxRecDepth 100000 in
theorem nw_92 : (Jvm.Cond.instanceMethod ({ cls := "java/lang/Object", name := "clone", desc := "()Ljava/lang/Object;" } : Jvm.MethodName)) ∈ q_tbl := q_t 92 rfl rfl
set_option maxRecDepth 100000 in
theorem nw_93 : (Jvm.Cond.selects "[I" ({ cls := "[I", name := "clone", desc := "()Ljava/lang/Object;" } : Jvm.MethodName) ({ cls := "java/lang/Object", name := "clone", desc := "()Ljava/lang/Object;" } : Jvm.MethodName)) ∈ q_tbl := q_t 93 rfl rfl
set_option maxRecDepth 100000 in
theorem nw_95 : (Jvm.Cond.classLink "PrickedPages" (37 : Nat) "[I") ∈ q_tbl := q_t 95 rfl rfl
set_option maxRecDepth 100000 in
theorem nw_96 : (Jvm.Cond.methodLink "PrickedPages" (57 : Nat) ({ cls := "java/util/Arrays", name := "fill", desc := "([II)V" } : Jvm.MethodName)) ∈ q_tbl := q_t 96 rfl rfl
set_option maxRecDepth 100000 in
theorem nw_99 : (Jvm.Cond.classLink "PrickedPages" (66 : Nat) "PrickedPages$Sheet") ∈ q_tbl := q_t 99 rfl rfl
set_option maxRecDepth 100000 in
theorem nw_101 : (Jvm.Cond.instantiable "PrickedPages$Sheet" (3 : Nat)) ∈ q_tbl := q_t 101 rfl rfl
set_option maxRecDepth 100000 in
theorem nw_103 : (Jvm.Cond.instanceMethod ({ cls := "PrickedPages$Sheet", name := "<init>", desc := "()V" } : Jvm.MethodName)) ∈ q_tbl := q_t 103 rfl rfl
set_option maxRecDepth 100000 in
theorem nw_104 : (Jvm.Cond.code ({ cls := "PrickedPages$Sheet", name := "<init>", desc := "()V" } : Jvm.MethodName) prog_2_method_1_code (1 : Nat) (Option.none : Option Jvm.ClassFile.FieldType)) ∈ q_tbl := q_t 104 rfl rfl
set_option maxRecDepth 100000 in
theorem nw_105 : (Jvm.Cond.methodLink "PrickedPages$Sheet" (3 : Nat) ({ cls := "java/lang/Object", name := "<init>", desc := "()V" } : Jvm.MethodName)) ∈ q_tbl := q_t 105 rfl rfl
set_option maxRecDepth 100000 in
theorem nw_106 : (Jvm.Cond.fieldLink "PrickedPages$Sheet" (9 : Nat) "PrickedPages$Sheet" "items" "[I") ∈ q_tbl := q_t 106 rfl rfl
set_option maxRecDepth 100000 in
theorem nw_108 : (Jvm.Cond.fieldLink "PrickedPages$Sheet" (15 : Nat) "PrickedPages$Sheet" "form" "I") ∈ q_tbl := q_t 108 rfl rfl
set_option maxRecDepth 100000 in
theorem nw_119 : (Jvm.Cond.fieldLink "PrickedPages" (14 : Nat) "PrickedPages" "page" "LPrickedPages$Text;") ∈ q_tbl := q_t 119 rfl rfl
set_option maxRecDepth 100000 in
theorem nw_120 : (Jvm.Cond.fieldLink "PrickedPages" (21 : Nat) "PrickedPages" "list" "LPrickedPages$WordList;") ∈ q_tbl := q_t 120 rfl rfl
set_option maxRecDepth 100000 in
theorem nw_121 : (Jvm.Cond.fieldLink "PrickedPages" (28 : Nat) "PrickedPages" "slips" "LPrickedPages$Slips;") ∈ q_tbl := q_t 121 rfl rfl
set_option maxRecDepth 100000 in
theorem nw_122 : (Jvm.Cond.fieldLink "PrickedPages" (41 : Nat) "PrickedPages" "signs" "[I") ∈ q_tbl := q_t 122 rfl rfl
set_option maxRecDepth 100000 in
theorem nw_123 : (Jvm.Cond.fieldLink "PrickedPages" (44 : Nat) "PrickedPages" "cells" "[I") ∈ q_tbl := q_t 123 rfl rfl
set_option maxRecDepth 100000 in
theorem nw_125 : (Jvm.Cond.fieldLink "PrickedPages" (47 : Nat) "PrickedPages" "missCost" "I") ∈ q_tbl := q_t 125 rfl rfl
set_option maxRecDepth 100000 in
theorem nw_126 : (Jvm.Cond.fieldLink "PrickedPages" (51 : Nat) "PrickedPages" "extraCost" "I") ∈ q_tbl := q_t 126 rfl rfl
set_option maxRecDepth 100000 in
theorem nw_127 : (Jvm.Cond.fieldLink "PrickedPages" (54 : Nat) "PrickedPages" "comes" "[I") ∈ q_tbl := q_t 127 rfl rfl
set_option maxRecDepth 100000 in
theorem nw_128 : (Jvm.Cond.fieldLink "PrickedPages" (63 : Nat) "PrickedPages" "habits" "[I") ∈ q_tbl := q_t 128 rfl rfl
set_option maxRecDepth 100000 in
theorem nw_129 : (Jvm.Cond.fieldLink "PrickedPages" (68 : Nat) "PrickedPages" "sheets" "[LPrickedPages$Sheet;") ∈ q_tbl := q_t 129 rfl rfl
set_option maxRecDepth 100000 in
theorem nw_131 : (Jvm.Cond.fieldLink "PrickedPages" (73 : Nat) "PrickedPages" "worn" "[I") ∈ q_tbl := q_t 131 rfl rfl
set_option maxRecDepth 100000 in
theorem nw_132 : (Jvm.Cond.fieldLink "PrickedPages" (76 : Nat) "PrickedPages" "bestFrom" "[I") ∈ q_tbl := q_t 132 rfl rfl
set_option maxRecDepth 100000 in
theorem nw_561 : (Jvm.Cond.classLink "PrickedPagesLaw" (10 : Nat) "PrickedPagesModel") ∈ q_tbl := q_t 561 rfl rfl
set_option maxRecDepth 100000 in
theorem nw_562 : (Jvm.Cond.instantiable "PrickedPagesModel" (25 : Nat)) ∈ q_tbl := q_t 562 rfl rfl
set_option maxRecDepth 100000 in
theorem nw_563 : (Jvm.Cond.methodLink "PrickedPagesLaw" (12 : Nat) ({ cls := "PrickedPagesModel", name := "<init>", desc := "()V" } : Jvm.MethodName)) ∈ q_tbl := q_t 563 rfl rfl
set_option maxRecDepth 100000 in
theorem nw_564 : (Jvm.Cond.instanceMethod ({ cls := "PrickedPagesModel", name := "<init>", desc := "()V" } : Jvm.MethodName)) ∈ q_tbl := q_t 564 rfl rfl
set_option maxRecDepth 100000 in
theorem nw_565 : (Jvm.Cond.code ({ cls := "PrickedPagesModel", name := "<init>", desc := "()V" } : Jvm.MethodName) prog_7_method_1_code (2 : Nat) (Option.none : Option Jvm.ClassFile.FieldType)) ∈ q_tbl := q_t 565 rfl rfl
set_option maxRecDepth 100000 in
theorem nw_566 : (Jvm.Cond.methodLink "PrickedPagesModel" (1 : Nat) ({ cls := "java/lang/Object", name := "<init>", desc := "()V" } : Jvm.MethodName)) ∈ q_tbl := q_t 566 rfl rfl
set_option maxRecDepth 100000 in
theorem nw_567 : (Jvm.Cond.fieldLink "PrickedPagesModel" (7 : Nat) "PrickedPagesModel" "signs" "[I") ∈ q_tbl := q_t 567 rfl rfl
set_option maxRecDepth 100000 in
theorem nw_568 : (Jvm.Cond.fieldLink "PrickedPagesModel" (13 : Nat) "PrickedPagesModel" "typed" "[I") ∈ q_tbl := q_t 568 rfl rfl
set_option maxRecDepth 100000 in
theorem nw_569 : (Jvm.Cond.fieldLink "PrickedPagesModel" (16 : Nat) "PrickedPagesModel" "texts" "[I") ∈ q_tbl := q_t 569 rfl rfl
set_option maxRecDepth 100000 in
theorem nw_571 : (Jvm.Cond.fieldLink "PrickedPagesModel" (19 : Nat) "PrickedPagesModel" "page" "[I") ∈ q_tbl := q_t 571 rfl rfl
set_option maxRecDepth 100000 in
theorem nw_573 : (Jvm.Cond.fieldLink "PrickedPagesModel" (22 : Nat) "PrickedPagesModel" "letters" "[I") ∈ q_tbl := q_t 573 rfl rfl
set_option maxRecDepth 100000 in
theorem nw_574 : (Jvm.Cond.fieldLink "PrickedPagesModel" (25 : Nat) "PrickedPagesModel" "lengths" "[I") ∈ q_tbl := q_t 574 rfl rfl
set_option maxRecDepth 100000 in
theorem nw_577 : (Jvm.Cond.fieldLink "PrickedPagesModel" (28 : Nat) "PrickedPagesModel" "oftens" "[I") ∈ q_tbl := q_t 577 rfl rfl
set_option maxRecDepth 100000 in
theorem nw_579 : (Jvm.Cond.fieldLink "PrickedPagesModel" (31 : Nat) "PrickedPagesModel" "slipCell" "[I") ∈ q_tbl := q_t 579 rfl rfl
set_option maxRecDepth 100000 in
theorem nw_580 : (Jvm.Cond.fieldLink "PrickedPagesModel" (34 : Nat) "PrickedPagesModel" "slipPoint" "[I") ∈ q_tbl := q_t 580 rfl rfl
set_option maxRecDepth 100000 in
theorem nw_581 : (Jvm.Cond.fieldLink "PrickedPagesModel" (37 : Nat) "PrickedPagesModel" "slipIs" "[I") ∈ q_tbl := q_t 581 rfl rfl
set_option maxRecDepth 100000 in
theorem nw_582 : (Jvm.Cond.fieldLink "PrickedPagesModel" (40 : Nat) "PrickedPagesModel" "free" "[I") ∈ q_tbl := q_t 582 rfl rfl
set_option maxRecDepth 100000 in
theorem nw_583 : (Jvm.Cond.fieldLink "PrickedPagesModel" (43 : Nat) "PrickedPagesModel" "bound" "[I") ∈ q_tbl := q_t 583 rfl rfl
set_option maxRecDepth 100000 in
theorem nw_584 : (Jvm.Cond.fieldLink "PrickedPagesModel" (46 : Nat) "PrickedPagesModel" "hands" "[I") ∈ q_tbl := q_t 584 rfl rfl
set_option maxRecDepth 100000 in
theorem nw_585 : (Jvm.Cond.fieldLink "PrickedPagesModel" (49 : Nat) "PrickedPagesModel" "worn" "[I") ∈ q_tbl := q_t 585 rfl rfl
set_option maxRecDepth 100000 in
theorem nw_586 : (Jvm.Cond.fieldLink "PrickedPagesModel" (52 : Nat) "PrickedPagesModel" "isThere" "[Z") ∈ q_tbl := q_t 586 rfl rfl
set_option maxRecDepth 100000 in
theorem nw_587 : (Jvm.Cond.fieldLink "PrickedPagesModel" (56 : Nat) "PrickedPagesModel" "forms" "[I") ∈ q_tbl := q_t 587 rfl rfl
set_option maxRecDepth 100000 in
theorem nw_588 : (Jvm.Cond.fieldLink "PrickedPagesModel" (59 : Nat) "PrickedPagesModel" "sizes" "[I") ∈ q_tbl := q_t 588 rfl rfl
set_option maxRecDepth 100000 in
theorem nw_589 : (Jvm.Cond.fieldLink "PrickedPagesModel" (62 : Nat) "PrickedPagesModel" "items" "[I") ∈ q_tbl := q_t 589 rfl rfl
set_option maxRecDepth 100000 in
theorem nw_590 : (Jvm.Cond.fieldLink "PrickedPagesModel" (65 : Nat) "PrickedPagesModel" "moved" "[I") ∈ q_tbl := q_t 590 rfl rfl
set_option maxRecDepth 100000 in
theorem nw_643 : (Jvm.Cond.arrayClass Jvm.ClassFile.FieldType.boolean) ∈ q_tbl := q_t 643 rfl rfl
