section
-- ===== PART A: goes FIRST, ahead of the names: the tables' words, and 'selects' of the private methods out of them =====
/-- a private method of a class that the tables say can be made, by its rows of tables_1 -/
def lw_okq (q : MethodName × Nat) : Prop := (q.1.cls ≠ "java/lang/invoke/MethodHandle" ∧ q.1.cls ≠ "java/lang/invoke/VarHandle") ∧ Cond.instantiable q.1.cls q.2 ∈ tables_1 ∧ Cond.privateMethod q.1 ∈ tables_1 ∧ Cond.instanceMethod q.1 ∈ tables_1
theorem lw_p0 : lw_okq (⟨"LimbWorks", "registerAt", "(I)LLimbWorks$Natural;"⟩, 9) := ⟨⟨by decide +kernel, by decide +kernel⟩, List.mem_of_getElem? (i := 27) (by decide +kernel), List.mem_of_getElem? (i := 119) (by decide +kernel), List.mem_of_getElem? (i := 120) (by decide +kernel)⟩
theorem lw_p1 : lw_okq (⟨"java/lang/Throwable", "fillInStackTrace", "(I)Ljava/lang/Throwable;"⟩, 6) := ⟨⟨by decide +kernel, by decide +kernel⟩, List.mem_of_getElem? (i := 166) (by decide +kernel), List.mem_of_getElem? (i := 164) (by decide +kernel), List.mem_of_getElem? (i := 165) (by decide +kernel)⟩
theorem lw_p2 : lw_okq (⟨"LimbWorks$Natural", "moveUp", "(LLimbWorks$Natural;II)V"⟩, 2) := ⟨⟨by decide +kernel, by decide +kernel⟩, List.mem_of_getElem? (i := 36) (by decide +kernel), List.mem_of_getElem? (i := 262) (by decide +kernel), List.mem_of_getElem? (i := 263) (by decide +kernel)⟩
theorem lw_p3 : lw_okq (⟨"LimbWorks$Natural", "moveDown", "(LLimbWorks$Natural;II)V"⟩, 2) := ⟨⟨by decide +kernel, by decide +kernel⟩, List.mem_of_getElem? (i := 36) (by decide +kernel), List.mem_of_getElem? (i := 523) (by decide +kernel), List.mem_of_getElem? (i := 524) (by decide +kernel)⟩
theorem lw_p4 : lw_okq (⟨"LimbWorks$Bench", "multiply", "(IIIIIII)V"⟩, 1) := ⟨⟨by decide +kernel, by decide +kernel⟩, List.mem_of_getElem? (i := 54) (by decide +kernel), List.mem_of_getElem? (i := 583) (by decide +kernel), List.mem_of_getElem? (i := 584) (by decide +kernel)⟩
theorem lw_p5 : lw_okq (⟨"LimbWorks$Bench", "squarePlain", "(III)V"⟩, 1) := ⟨⟨by decide +kernel, by decide +kernel⟩, List.mem_of_getElem? (i := 54) (by decide +kernel), List.mem_of_getElem? (i := 589) (by decide +kernel), List.mem_of_getElem? (i := 590) (by decide +kernel)⟩
theorem lw_p6 : lw_okq (⟨"LimbWorks$Bench", "addProduct", "(IIIJ)I"⟩, 1) := ⟨⟨by decide +kernel, by decide +kernel⟩, List.mem_of_getElem? (i := 54) (by decide +kernel), List.mem_of_getElem? (i := 595) (by decide +kernel), List.mem_of_getElem? (i := 596) (by decide +kernel)⟩
theorem lw_p7 : lw_okq (⟨"LimbWorks$Bench", "multiplyPlain", "(IIIII)V"⟩, 1) := ⟨⟨by decide +kernel, by decide +kernel⟩, List.mem_of_getElem? (i := 54) (by decide +kernel), List.mem_of_getElem? (i := 599) (by decide +kernel), List.mem_of_getElem? (i := 600) (by decide +kernel)⟩
theorem lw_p8 : lw_okq (⟨"LimbWorks$Bench", "multiplyTwice", "(IIIIIII)V"⟩, 1) := ⟨⟨by decide +kernel, by decide +kernel⟩, List.mem_of_getElem? (i := 54) (by decide +kernel), List.mem_of_getElem? (i := 603) (by decide +kernel), List.mem_of_getElem? (i := 604) (by decide +kernel)⟩
theorem lw_p9 : lw_okq (⟨"LimbWorks$Bench", "addInto", "(IIII)I"⟩, 1) := ⟨⟨by decide +kernel, by decide +kernel⟩, List.mem_of_getElem? (i := 54) (by decide +kernel), List.mem_of_getElem? (i := 607) (by decide +kernel), List.mem_of_getElem? (i := 608) (by decide +kernel)⟩
theorem lw_p10 : lw_okq (⟨"LimbWorks$Bench", "multiplyThrice", "(IIIIIII)V"⟩, 1) := ⟨⟨by decide +kernel, by decide +kernel⟩, List.mem_of_getElem? (i := 54) (by decide +kernel), List.mem_of_getElem? (i := 611) (by decide +kernel), List.mem_of_getElem? (i := 612) (by decide +kernel)⟩
theorem lw_p11 : lw_okq (⟨"LimbWorks$Bench", "layDifference", "(IIII)Z"⟩, 1) := ⟨⟨by decide +kernel, by decide +kernel⟩, List.mem_of_getElem? (i := 54) (by decide +kernel), List.mem_of_getElem? (i := 615) (by decide +kernel), List.mem_of_getElem? (i := 616) (by decide +kernel)⟩
theorem lw_p12 : lw_okq (⟨"LimbWorks$Bench", "takeFrom", "(IIII)I"⟩, 1) := ⟨⟨by decide +kernel, by decide +kernel⟩, List.mem_of_getElem? (i := 54) (by decide +kernel), List.mem_of_getElem? (i := 619) (by decide +kernel), List.mem_of_getElem? (i := 620) (by decide +kernel)⟩
theorem lw_p13 : lw_okq (⟨"LimbWorks$Bench", "layMoved", "(ILLimbWorks$Natural;I)V"⟩, 1) := ⟨⟨by decide +kernel, by decide +kernel⟩, List.mem_of_getElem? (i := 54) (by decide +kernel), List.mem_of_getElem? (i := 636) (by decide +kernel), List.mem_of_getElem? (i := 637) (by decide +kernel)⟩
theorem lw_p14 : lw_okq (⟨"LimbWorks$Bench", "divideRun", "(IIIIIII)I"⟩, 1) := ⟨⟨by decide +kernel, by decide +kernel⟩, List.mem_of_getElem? (i := 54) (by decide +kernel), List.mem_of_getElem? (i := 640) (by decide +kernel), List.mem_of_getElem? (i := 641) (by decide +kernel)⟩
theorem lw_p15 : lw_okq (⟨"LimbWorks$Bench", "dividePlain", "(IIIII)I"⟩, 1) := ⟨⟨by decide +kernel, by decide +kernel⟩, List.mem_of_getElem? (i := 54) (by decide +kernel), List.mem_of_getElem? (i := 644) (by decide +kernel), List.mem_of_getElem? (i := 645) (by decide +kernel)⟩
def lw_privs_1 : List (MethodName × Nat) := [(⟨"LimbWorks", "registerAt", "(I)LLimbWorks$Natural;"⟩, 9), (⟨"java/lang/Throwable", "fillInStackTrace", "(I)Ljava/lang/Throwable;"⟩, 6), (⟨"LimbWorks$Natural", "moveUp", "(LLimbWorks$Natural;II)V"⟩, 2), (⟨"LimbWorks$Natural", "moveDown", "(LLimbWorks$Natural;II)V"⟩, 2), (⟨"LimbWorks$Bench", "multiply", "(IIIIIII)V"⟩, 1), (⟨"LimbWorks$Bench", "squarePlain", "(III)V"⟩, 1), (⟨"LimbWorks$Bench", "addProduct", "(IIIJ)I"⟩, 1), (⟨"LimbWorks$Bench", "multiplyPlain", "(IIIII)V"⟩, 1), (⟨"LimbWorks$Bench", "multiplyTwice", "(IIIIIII)V"⟩, 1), (⟨"LimbWorks$Bench", "addInto", "(IIII)I"⟩, 1), (⟨"LimbWorks$Bench", "multiplyThrice", "(IIIIIII)V"⟩, 1), (⟨"LimbWorks$Bench", "layDifference", "(IIII)Z"⟩, 1), (⟨"LimbWorks$Bench", "takeFrom", "(IIII)I"⟩, 1), (⟨"LimbWorks$Bench", "layMoved", "(ILLimbWorks$Natural;I)V"⟩, 1), (⟨"LimbWorks$Bench", "divideRun", "(IIIIIII)I"⟩, 1), (⟨"LimbWorks$Bench", "dividePlain", "(IIIII)I"⟩, 1)]
theorem lw_r1 : ∀ q ∈ lw_privs_1, lw_okq q := List.forall_mem_cons.mpr ⟨lw_p0, List.forall_mem_cons.mpr ⟨lw_p1, List.forall_mem_cons.mpr ⟨lw_p2, List.forall_mem_cons.mpr ⟨lw_p3, List.forall_mem_cons.mpr ⟨lw_p4, List.forall_mem_cons.mpr ⟨lw_p5, List.forall_mem_cons.mpr ⟨lw_p6, List.forall_mem_cons.mpr ⟨lw_p7, List.forall_mem_cons.mpr ⟨lw_p8, List.forall_mem_cons.mpr ⟨lw_p9, List.forall_mem_cons.mpr ⟨lw_p10, List.forall_mem_cons.mpr ⟨lw_p11, List.forall_mem_cons.mpr ⟨lw_p12, List.forall_mem_cons.mpr ⟨lw_p13, List.forall_mem_cons.mpr ⟨lw_p14, List.forall_mem_cons.mpr ⟨lw_p15, fun _ h => absurd h List.not_mem_nil⟩⟩⟩⟩⟩⟩⟩⟩⟩⟩⟩⟩⟩⟩⟩⟩
theorem lw_p16 : lw_okq (⟨"LimbWorks$Bench", "isNotLess", "(III)Z"⟩, 1) := ⟨⟨by decide +kernel, by decide +kernel⟩, List.mem_of_getElem? (i := 54) (by decide +kernel), List.mem_of_getElem? (i := 648) (by decide +kernel), List.mem_of_getElem? (i := 649) (by decide +kernel)⟩
theorem lw_p17 : lw_okq (⟨"LimbWorks$Bench", "guessWord", "(III)J"⟩, 1) := ⟨⟨by decide +kernel, by decide +kernel⟩, List.mem_of_getElem? (i := 54) (by decide +kernel), List.mem_of_getElem? (i := 652) (by decide +kernel), List.mem_of_getElem? (i := 653) (by decide +kernel)⟩
theorem lw_p18 : lw_okq (⟨"LimbWorks$Bench", "takeProduct", "(IIIJ)J"⟩, 1) := ⟨⟨by decide +kernel, by decide +kernel⟩, List.mem_of_getElem? (i := 54) (by decide +kernel), List.mem_of_getElem? (i := 659) (by decide +kernel), List.mem_of_getElem? (i := 660) (by decide +kernel)⟩
theorem lw_p19 : lw_okq (⟨"LimbWorks$Bench", "divideByHead", "(IIIIIII)I"⟩, 1) := ⟨⟨by decide +kernel, by decide +kernel⟩, List.mem_of_getElem? (i := 54) (by decide +kernel), List.mem_of_getElem? (i := 663) (by decide +kernel), List.mem_of_getElem? (i := 664) (by decide +kernel)⟩
theorem lw_p20 : lw_okq (⟨"LimbWorks$Bench", "takeOne", "(II)I"⟩, 1) := ⟨⟨by decide +kernel, by decide +kernel⟩, List.mem_of_getElem? (i := 54) (by decide +kernel), List.mem_of_getElem? (i := 667) (by decide +kernel), List.mem_of_getElem? (i := 668) (by decide +kernel)⟩
theorem lw_p21 : lw_okq (⟨"LimbWorks$Roots", "layStep", "(LLimbWorks$Natural;III)V"⟩, 3) := ⟨⟨by decide +kernel, by decide +kernel⟩, List.mem_of_getElem? (i := 64) (by decide +kernel), List.mem_of_getElem? (i := 707) (by decide +kernel), List.mem_of_getElem? (i := 708) (by decide +kernel)⟩
theorem lw_p22 : lw_okq (⟨"LimbWorks$Roots", "lengthen", "(LLimbWorks$Natural;I)V"⟩, 3) := ⟨⟨by decide +kernel, by decide +kernel⟩, List.mem_of_getElem? (i := 64) (by decide +kernel), List.mem_of_getElem? (i := 718) (by decide +kernel), List.mem_of_getElem? (i := 719) (by decide +kernel)⟩
theorem lw_p23 : lw_okq (⟨"LimbWorks$Roots", "lowerToFit", "(LLimbWorks$Natural;ILLimbWorks$Bench;)V"⟩, 3) := ⟨⟨by decide +kernel, by decide +kernel⟩, List.mem_of_getElem? (i := 64) (by decide +kernel), List.mem_of_getElem? (i := 727) (by decide +kernel), List.mem_of_getElem? (i := 728) (by decide +kernel)⟩
theorem lw_p24 : lw_okq (⟨"LimbWorks", "feedWord", "(I)V"⟩, 9) := ⟨⟨by decide +kernel, by decide +kernel⟩, List.mem_of_getElem? (i := 27) (by decide +kernel), List.mem_of_getElem? (i := 767) (by decide +kernel), List.mem_of_getElem? (i := 768) (by decide +kernel)⟩
theorem lw_p25 : lw_okq (⟨"LimbWorks", "hasDigitsAlone", "(II)Z"⟩, 9) := ⟨⟨by decide +kernel, by decide +kernel⟩, List.mem_of_getElem? (i := 27) (by decide +kernel), List.mem_of_getElem? (i := 786) (by decide +kernel), List.mem_of_getElem? (i := 787) (by decide +kernel)⟩
theorem lw_p26 : lw_okq (⟨"LimbWorks", "readDigits", "(II)V"⟩, 9) := ⟨⟨by decide +kernel, by decide +kernel⟩, List.mem_of_getElem? (i := 27) (by decide +kernel), List.mem_of_getElem? (i := 808) (by decide +kernel), List.mem_of_getElem? (i := 809) (by decide +kernel)⟩
theorem lw_p27 : lw_okq (⟨"LimbWorks", "cutIntoPieces", "(LLimbWorks$Natural;I)I"⟩, 9) := ⟨⟨by decide +kernel, by decide +kernel⟩, List.mem_of_getElem? (i := 27) (by decide +kernel), List.mem_of_getElem? (i := 829) (by decide +kernel), List.mem_of_getElem? (i := 830) (by decide +kernel)⟩
theorem lw_p28 : lw_okq (⟨"LimbWorks", "countDigits", "(III)I"⟩, 9) := ⟨⟨by decide +kernel, by decide +kernel⟩, List.mem_of_getElem? (i := 27) (by decide +kernel), List.mem_of_getElem? (i := 837) (by decide +kernel), List.mem_of_getElem? (i := 838) (by decide +kernel)⟩
theorem lw_p29 : lw_okq (⟨"LimbWorks", "writeDigits", "(III)V"⟩, 9) := ⟨⟨by decide +kernel, by decide +kernel⟩, List.mem_of_getElem? (i := 27) (by decide +kernel), List.mem_of_getElem? (i := 841) (by decide +kernel), List.mem_of_getElem? (i := 842) (by decide +kernel)⟩
theorem lw_p30 : lw_okq (⟨"LimbWorksModel", "set0", "(IJ)I"⟩, 15) := ⟨⟨by decide +kernel, by decide +kernel⟩, List.mem_of_getElem? (i := 868) (by decide +kernel), List.mem_of_getElem? (i := 945) (by decide +kernel), List.mem_of_getElem? (i := 946) (by decide +kernel)⟩
theorem lw_p31 : lw_okq (⟨"LimbWorksModel", "keep", "(ILLimbWorksModel$Nat;)I"⟩, 15) := ⟨⟨by decide +kernel, by decide +kernel⟩, List.mem_of_getElem? (i := 868) (by decide +kernel), List.mem_of_getElem? (i := 964) (by decide +kernel), List.mem_of_getElem? (i := 965) (by decide +kernel)⟩
def lw_privs_2 : List (MethodName × Nat) := [(⟨"LimbWorks$Bench", "isNotLess", "(III)Z"⟩, 1), (⟨"LimbWorks$Bench", "guessWord", "(III)J"⟩, 1), (⟨"LimbWorks$Bench", "takeProduct", "(IIIJ)J"⟩, 1), (⟨"LimbWorks$Bench", "divideByHead", "(IIIIIII)I"⟩, 1), (⟨"LimbWorks$Bench", "takeOne", "(II)I"⟩, 1), (⟨"LimbWorks$Roots", "layStep", "(LLimbWorks$Natural;III)V"⟩, 3), (⟨"LimbWorks$Roots", "lengthen", "(LLimbWorks$Natural;I)V"⟩, 3), (⟨"LimbWorks$Roots", "lowerToFit", "(LLimbWorks$Natural;ILLimbWorks$Bench;)V"⟩, 3), (⟨"LimbWorks", "feedWord", "(I)V"⟩, 9), (⟨"LimbWorks", "hasDigitsAlone", "(II)Z"⟩, 9), (⟨"LimbWorks", "readDigits", "(II)V"⟩, 9), (⟨"LimbWorks", "cutIntoPieces", "(LLimbWorks$Natural;I)I"⟩, 9), (⟨"LimbWorks", "countDigits", "(III)I"⟩, 9), (⟨"LimbWorks", "writeDigits", "(III)V"⟩, 9), (⟨"LimbWorksModel", "set0", "(IJ)I"⟩, 15), (⟨"LimbWorksModel", "keep", "(ILLimbWorksModel$Nat;)I"⟩, 15)]
theorem lw_r2 : ∀ q ∈ lw_privs_2, lw_okq q := List.forall_mem_cons.mpr ⟨lw_p16, List.forall_mem_cons.mpr ⟨lw_p17, List.forall_mem_cons.mpr ⟨lw_p18, List.forall_mem_cons.mpr ⟨lw_p19, List.forall_mem_cons.mpr ⟨lw_p20, List.forall_mem_cons.mpr ⟨lw_p21, List.forall_mem_cons.mpr ⟨lw_p22, List.forall_mem_cons.mpr ⟨lw_p23, List.forall_mem_cons.mpr ⟨lw_p24, List.forall_mem_cons.mpr ⟨lw_p25, List.forall_mem_cons.mpr ⟨lw_p26, List.forall_mem_cons.mpr ⟨lw_p27, List.forall_mem_cons.mpr ⟨lw_p28, List.forall_mem_cons.mpr ⟨lw_p29, List.forall_mem_cons.mpr ⟨lw_p30, List.forall_mem_cons.mpr ⟨lw_p31, fun _ h => absurd h List.not_mem_nil⟩⟩⟩⟩⟩⟩⟩⟩⟩⟩⟩⟩⟩⟩⟩⟩
theorem lw_p32 : lw_okq (⟨"LimbWorksModel", "copy0", "(II)I"⟩, 15) := ⟨⟨by decide +kernel, by decide +kernel⟩, List.mem_of_getElem? (i := 868) (by decide +kernel), List.mem_of_getElem? (i := 981) (by decide +kernel), List.mem_of_getElem? (i := 982) (by decide +kernel)⟩
theorem lw_p33 : lw_okq (⟨"LimbWorksModel", "shift0", "(III)I"⟩, 15) := ⟨⟨by decide +kernel, by decide +kernel⟩, List.mem_of_getElem? (i := 868) (by decide +kernel), List.mem_of_getElem? (i := 990) (by decide +kernel), List.mem_of_getElem? (i := 991) (by decide +kernel)⟩
theorem lw_p34 : lw_okq (⟨"LimbWorksModel$Nat", "trim", "(I)V"⟩, 2) := ⟨⟨by decide +kernel, by decide +kernel⟩, List.mem_of_getElem? (i := 875) (by decide +kernel), List.mem_of_getElem? (i := 1005) (by decide +kernel), List.mem_of_getElem? (i := 1006) (by decide +kernel)⟩
theorem lw_p35 : lw_okq (⟨"LimbWorksModel", "add0", "(III)I"⟩, 15) := ⟨⟨by decide +kernel, by decide +kernel⟩, List.mem_of_getElem? (i := 868) (by decide +kernel), List.mem_of_getElem? (i := 1017) (by decide +kernel), List.mem_of_getElem? (i := 1018) (by decide +kernel)⟩
theorem lw_p36 : lw_okq (⟨"LimbWorksModel", "subtract0", "(III)I"⟩, 15) := ⟨⟨by decide +kernel, by decide +kernel⟩, List.mem_of_getElem? (i := 868) (by decide +kernel), List.mem_of_getElem? (i := 1031) (by decide +kernel), List.mem_of_getElem? (i := 1032) (by decide +kernel)⟩
theorem lw_p37 : lw_okq (⟨"LimbWorksModel", "times0", "(III)I"⟩, 15) := ⟨⟨by decide +kernel, by decide +kernel⟩, List.mem_of_getElem? (i := 868) (by decide +kernel), List.mem_of_getElem? (i := 1048) (by decide +kernel), List.mem_of_getElem? (i := 1049) (by decide +kernel)⟩
theorem lw_p38 : lw_okq (⟨"LimbWorksModel", "divide0", "(IIII)I"⟩, 15) := ⟨⟨by decide +kernel, by decide +kernel⟩, List.mem_of_getElem? (i := 868) (by decide +kernel), List.mem_of_getElem? (i := 1061) (by decide +kernel), List.mem_of_getElem? (i := 1062) (by decide +kernel)⟩
theorem lw_p39 : lw_okq (⟨"LimbWorksModel", "divide", "(LLimbWorksModel$Nat;LLimbWorksModel$Nat;LLimbWorksModel$Nat;)V"⟩, 15) := ⟨⟨by decide +kernel, by decide +kernel⟩, List.mem_of_getElem? (i := 868) (by decide +kernel), List.mem_of_getElem? (i := 1065) (by decide +kernel), List.mem_of_getElem? (i := 1066) (by decide +kernel)⟩
theorem lw_p40 : lw_okq (⟨"LimbWorksModel", "takesTooMuch", "(JII)Z"⟩, 15) := ⟨⟨by decide +kernel, by decide +kernel⟩, List.mem_of_getElem? (i := 868) (by decide +kernel), List.mem_of_getElem? (i := 1071) (by decide +kernel), List.mem_of_getElem? (i := 1072) (by decide +kernel)⟩
theorem lw_p41 : lw_okq (⟨"LimbWorksModel", "power0", "(III)I"⟩, 15) := ⟨⟨by decide +kernel, by decide +kernel⟩, List.mem_of_getElem? (i := 868) (by decide +kernel), List.mem_of_getElem? (i := 1081) (by decide +kernel), List.mem_of_getElem? (i := 1082) (by decide +kernel)⟩
theorem lw_p42 : lw_okq (⟨"LimbWorksModel", "raise", "(LLimbWorksModel$Nat;I)V"⟩, 15) := ⟨⟨by decide +kernel, by decide +kernel⟩, List.mem_of_getElem? (i := 868) (by decide +kernel), List.mem_of_getElem? (i := 1085) (by decide +kernel), List.mem_of_getElem? (i := 1086) (by decide +kernel)⟩
theorem lw_p43 : lw_okq (⟨"LimbWorksModel", "root0", "(III)I"⟩, 15) := ⟨⟨by decide +kernel, by decide +kernel⟩, List.mem_of_getElem? (i := 868) (by decide +kernel), List.mem_of_getElem? (i := 1097) (by decide +kernel), List.mem_of_getElem? (i := 1098) (by decide +kernel)⟩
theorem lw_p44 : lw_okq (⟨"LimbWorksModel", "rootOf", "(I)Z"⟩, 15) := ⟨⟨by decide +kernel, by decide +kernel⟩, List.mem_of_getElem? (i := 868) (by decide +kernel), List.mem_of_getElem? (i := 1101) (by decide +kernel), List.mem_of_getElem? (i := 1102) (by decide +kernel)⟩
theorem lw_p45 : lw_okq (⟨"LimbWorksModel", "compare0", "(II)I"⟩, 15) := ⟨⟨by decide +kernel, by decide +kernel⟩, List.mem_of_getElem? (i := 868) (by decide +kernel), List.mem_of_getElem? (i := 1121) (by decide +kernel), List.mem_of_getElem? (i := 1122) (by decide +kernel)⟩
theorem lw_p46 : lw_okq (⟨"LimbWorksModel", "bits0", "(I)I"⟩, 15) := ⟨⟨by decide +kernel, by decide +kernel⟩, List.mem_of_getElem? (i := 868) (by decide +kernel), List.mem_of_getElem? (i := 1129) (by decide +kernel), List.mem_of_getElem? (i := 1130) (by decide +kernel)⟩
theorem lw_p47 : lw_okq (⟨"LimbWorksModel", "word0", "(II)J"⟩, 15) := ⟨⟨by decide +kernel, by decide +kernel⟩, List.mem_of_getElem? (i := 868) (by decide +kernel), List.mem_of_getElem? (i := 1137) (by decide +kernel), List.mem_of_getElem? (i := 1138) (by decide +kernel)⟩
def lw_privs_3 : List (MethodName × Nat) := [(⟨"LimbWorksModel", "copy0", "(II)I"⟩, 15), (⟨"LimbWorksModel", "shift0", "(III)I"⟩, 15), (⟨"LimbWorksModel$Nat", "trim", "(I)V"⟩, 2), (⟨"LimbWorksModel", "add0", "(III)I"⟩, 15), (⟨"LimbWorksModel", "subtract0", "(III)I"⟩, 15), (⟨"LimbWorksModel", "times0", "(III)I"⟩, 15), (⟨"LimbWorksModel", "divide0", "(IIII)I"⟩, 15), (⟨"LimbWorksModel", "divide", "(LLimbWorksModel$Nat;LLimbWorksModel$Nat;LLimbWorksModel$Nat;)V"⟩, 15), (⟨"LimbWorksModel", "takesTooMuch", "(JII)Z"⟩, 15), (⟨"LimbWorksModel", "power0", "(III)I"⟩, 15), (⟨"LimbWorksModel", "raise", "(LLimbWorksModel$Nat;I)V"⟩, 15), (⟨"LimbWorksModel", "root0", "(III)I"⟩, 15), (⟨"LimbWorksModel", "rootOf", "(I)Z"⟩, 15), (⟨"LimbWorksModel", "compare0", "(II)I"⟩, 15), (⟨"LimbWorksModel", "bits0", "(I)I"⟩, 15), (⟨"LimbWorksModel", "word0", "(II)J"⟩, 15)]
theorem lw_r3 : ∀ q ∈ lw_privs_3, lw_okq q := List.forall_mem_cons.mpr ⟨lw_p32, List.forall_mem_cons.mpr ⟨lw_p33, List.forall_mem_cons.mpr ⟨lw_p34, List.forall_mem_cons.mpr ⟨lw_p35, List.forall_mem_cons.mpr ⟨lw_p36, List.forall_mem_cons.mpr ⟨lw_p37, List.forall_mem_cons.mpr ⟨lw_p38, List.forall_mem_cons.mpr ⟨lw_p39, List.forall_mem_cons.mpr ⟨lw_p40, List.forall_mem_cons.mpr ⟨lw_p41, List.forall_mem_cons.mpr ⟨lw_p42, List.forall_mem_cons.mpr ⟨lw_p43, List.forall_mem_cons.mpr ⟨lw_p44, List.forall_mem_cons.mpr ⟨lw_p45, List.forall_mem_cons.mpr ⟨lw_p46, List.forall_mem_cons.mpr ⟨lw_p47, fun _ h => absurd h List.not_mem_nil⟩⟩⟩⟩⟩⟩⟩⟩⟩⟩⟩⟩⟩⟩⟩⟩
theorem lw_p48 : lw_okq (⟨"LimbWorksModel", "feed0", "(IIIII)V"⟩, 15) := ⟨⟨by decide +kernel, by decide +kernel⟩, List.mem_of_getElem? (i := 868) (by decide +kernel), List.mem_of_getElem? (i := 1150) (by decide +kernel), List.mem_of_getElem? (i := 1151) (by decide +kernel)⟩
theorem lw_p49 : lw_okq (⟨"LimbWorksModel", "end0", "(I)I"⟩, 15) := ⟨⟨by decide +kernel, by decide +kernel⟩, List.mem_of_getElem? (i := 868) (by decide +kernel), List.mem_of_getElem? (i := 1158) (by decide +kernel), List.mem_of_getElem? (i := 1159) (by decide +kernel)⟩
theorem lw_p50 : lw_okq (⟨"LimbWorksModel", "read0", "(II)I"⟩, 15) := ⟨⟨by decide +kernel, by decide +kernel⟩, List.mem_of_getElem? (i := 868) (by decide +kernel), List.mem_of_getElem? (i := 1167) (by decide +kernel), List.mem_of_getElem? (i := 1168) (by decide +kernel)⟩
theorem lw_p51 : lw_okq (⟨"LimbWorksModel", "write0", "(II)I"⟩, 15) := ⟨⟨by decide +kernel, by decide +kernel⟩, List.mem_of_getElem? (i := 868) (by decide +kernel), List.mem_of_getElem? (i := 1183) (by decide +kernel), List.mem_of_getElem? (i := 1184) (by decide +kernel)⟩
theorem lw_p52 : lw_okq (⟨"LimbWorksModel", "octet0", "(I)I"⟩, 15) := ⟨⟨by decide +kernel, by decide +kernel⟩, List.mem_of_getElem? (i := 868) (by decide +kernel), List.mem_of_getElem? (i := 1192) (by decide +kernel), List.mem_of_getElem? (i := 1193) (by decide +kernel)⟩
def lw_privs_4 : List (MethodName × Nat) := [(⟨"LimbWorksModel", "feed0", "(IIIII)V"⟩, 15), (⟨"LimbWorksModel", "end0", "(I)I"⟩, 15), (⟨"LimbWorksModel", "read0", "(II)I"⟩, 15), (⟨"LimbWorksModel", "write0", "(II)I"⟩, 15), (⟨"LimbWorksModel", "octet0", "(I)I"⟩, 15)]
theorem lw_r4 : ∀ q ∈ lw_privs_4, lw_okq q := List.forall_mem_cons.mpr ⟨lw_p48, List.forall_mem_cons.mpr ⟨lw_p49, List.forall_mem_cons.mpr ⟨lw_p50, List.forall_mem_cons.mpr ⟨lw_p51, List.forall_mem_cons.mpr ⟨lw_p52, fun _ h => absurd h List.not_mem_nil⟩⟩⟩⟩⟩
def lw_privs : List (MethodName × Nat) := lw_privs_1 ++ (lw_privs_2 ++ (lw_privs_3 ++ (lw_privs_4)))
def lw_tbl : List Cond := k2_sels lw_privs ++ tables_1
theorem lw_privs_ok : ∀ q ∈ lw_privs, lw_okq q := by
  show ∀ q ∈ lw_privs_1 ++ (lw_privs_2 ++ (lw_privs_3 ++ (lw_privs_4))), lw_okq q
  exact List.forall_mem_append.mpr ⟨lw_r1, List.forall_mem_append.mpr ⟨lw_r2, List.forall_mem_append.mpr ⟨lw_r3, lw_r4⟩⟩⟩
end
section
/-! ===== BEGIN words of one list among another's, by their places ===== -/
theorem goodIn_r {big : List Cond} (ws : List Cond) (ps : List Nat) (hp : ws = ps.filterMap (fun i => big[i]?)) (h : ws.all goodWord = true) : GoodIn big ws := by
  intro w hw
  have h1 := List.all_eq_true.mp h w hw
  rw [hp] at hw
  obtain ⟨i, -, hi⟩ := List.mem_filterMap.mp hw
  have hm : w ∈ big := by first | exact List.mem_of_getElem? hi | exact List.getElem?_mem hi
  exact ⟨hm, good_of_word h1⟩
theorem goodIn_app {big a b : List Cond} (ha : GoodIn big a) (hb : GoodIn big b) : GoodIn big (a ++ b) := fun w h => (List.mem_append.mp h).elim (ha w) (hb w)
theorem goodIn_ca {big a b : List Cond} {c : Cond} (ha : GoodIn big (c :: a)) (hb : GoodIn big b) : GoodIn big (c :: (a ++ b)) := fun w h => (List.mem_cons.mp h).elim (fun e => ha w (List.mem_cons.mpr (Or.inl e))) (fun h => (List.mem_append.mp h).elim (fun h => ha w (List.mem_cons.mpr (Or.inr h))) (hb w))
theorem goodIn_sub {big ws : List Cond} (hm : ∀ w ∈ ws, w ∈ big) (h : ws.all goodWord = true) : GoodIn big ws := fun w hw => ⟨hm w hw, good_of_word (List.all_eq_true.mp h w hw)⟩
/-! ===== END ===== -/

/-! ===== BEGIN exceptions that leave a method, and their catching by the caller (launches without stack traces) ===== -/
section VXA
/-! The laws vx_back, vx_callV, vx_callS, vx_callSW, vx_throw0, vx_throwS follow proofs of the library, with one case more: JvmDerived/Free/Laws.lean (Back.of_free), Shelf42/LK1.lean (callV, callS), Shelf/KitTraced.lean (throwNew0V, throwNewS). -/
/-- where a method has thrown q: the class by its name, the cell, what was written, the world -/
def vx_T (XC : String → State → State → Prop) (st : State) (q : Addr) (t : State) (mc ms : Nat) (free : Addr → Prop) : Prop :=
  ∃ (E : String) (ce : Cell) (L : List Loc), XC E st t ∧ t.heap[q]? = some ce ∧ ce.vm = .none ∧ st.vm.findClass E = some ce.cls ∧ st.WarmedH t.vm ∧ st.sameButNew ({ t with vm := st.vm } : State) L mc ms ∧ ∀ z ∈ L, free z.base
def vx_Q (Qc : Array Value → State → Outcome → State → Prop) (XC : String → State → State → Prop) (mc ms : Nat) (free : Addr → Prop) : Array Value → State → Outcome → State → Prop := fun a st o t =>
  (Qc a st o t ∧ ∃ L, FrameEnd st o t L mc ms ∧ ∀ q ∈ L, free q.base) ∨ ∃ q, o = .threw q ∧ vx_T XC st q t mc ms free
/-- a callee that returns or throws -/
def vx_Met (l : Launch) (y : MethodName) (ws : List Cond) (rm : Room) (Pc : Array Value → State → Prop) (Qc : Array Value → State → Outcome → State → Prop) (XC : String → State → State → Prop) (mc ms : Nat) (free : Addr → Prop) : Prop :=
  MetFree l y (headSpec ws rm) Pc (fun _ _ _ _ _ => True) (vx_Q Qc XC mc ms free)
def vx_Post (XC : String → State → State → Prop) (mc ms : Nat) (free : Addr → Prop) : Pt → Array Value → Addr → Pt → Prop := fun A a q B =>
  ∃ (g : JFrame) (mk : MethodId) (t : State) (L : List Loc) (E : String) (ce : Cell), B.U.heap = t.heap ∧ B.U.vm = t.vm ∧ XC E (A.U.calling g mk a) t ∧ t.heap[q]? = some ce ∧ ce.vm = .none ∧ A.U.vm.findClass E = some ce.cls ∧ B.locs = A.locs ++ L ∧ (∀ z ∈ L, free z.base) ∧ B.cells = A.cells + mc ∧ B.slots = A.slots + ms
def vx_Back (l : Launch) (R : Room) (p : Program) (e : Env) (below : List Frame) (s : State) (sargs : Array Value) (y : MethodName) (len W9 : Nat)
    (Pre : Pt → Array Value → Prop) (Post : Pt → Array Value → Option Value → Pt → Prop) (PostX : Pt → Array Value → Addr → Pt → Prop) : Prop :=
  ∀ (m : MethodId) (meth : Method) (c : Code) (A : Pt) (g : JFrame) (ig : Instr) (mk : MethodId) (a : Array Value),
    Stand p l e R s m sargs below meth c A.U A.locs A.cells A.slots → g.method = m → g.locals.size = c.maxLocals → decode c.code g.pc = .ok (ig, len) →
    2 * g.monitorRoom + (g.stack.map fun v => v.category).sum ≤ W9 → A.U.methodNamed? y = some mk → Pre A a →
    (∃ (v : Option Value) (B : Pt), Stand p l e R s m sargs below meth c B.U B.locs B.cells B.slots ∧ Post A a v B ∧
      Steps p.tables e below (doInvoke e (A.U.setTop g) [] mk a).1 (B.U.setTop { g with pc := g.pc + len, stack := v.toList ++ g.stack })) ∨
    (∃ (q : Addr) (B : Pt), Stand p l e R s m sargs below meth c B.U B.locs B.cells B.slots ∧ PostX A a q B ∧
      Steps p.tables e below (doInvoke e (A.U.setTop g) [] mk a).1 ((B.U.setTop g).pushFrame (.throwing q)))
section Payer
variable {l : Launch} {R : Room} {p : Program} {e : Env} {below : List Frame} {s : State} {sargs : Array Value} {y : MethodName} {len W9 : Nat}
theorem vx_back {ws : List Cond} {rm : Room} {Pc : Array Value → State → Prop} {Qc : Array Value → State → Outcome → State → Prop} {XC : String → State → State → Prop} {mc ms : Nat} {free : Addr → Prop} {bytes : ByteArray} {maxL : Nat} {ret : Option FieldType}
    (hM : vx_Met l y ws rm Pc Qc XC mc ms free) (hblind : FrameBlind Pc) (hrc : rm.cells = mc) (hrs : rm.slots = ms)
    (hframes : rm.frames + 1 ≤ R.frames) (hlocals : W9 + (maxL + 11) + rm.locals ≤ R.locals)
    (hws : ∀ w ∈ ws, ∀ a' U, s.WarmedH U.vm → w.before a' U = true) (hcode : Cond.code y bytes maxL ret ∈ ws) (hinit : ∀ a' U, s.WarmedH U.vm → (Cond.initialized y.cls).before a' U = true) :
    vx_Back l R p e below s sargs y len W9 (PreOf R mc ms Pc) (PostOf Qc mc ms free) (vx_Post XC mc ms free) := by
  intro m meth c A g ig mk a X hg hsize hdg hW hn hp
  have h1 : (headSpec ws rm).pre.before a A.U = true := atoms_intro fun w hw => hws w hw _ _ X.warmed
  have h2 : (Cond.code y bytes maxL ret).before a A.U = true := hws _ hcode _ _ X.warmed
  have h3 : (Cond.initialized y.cls).before a A.U = true := hinit _ _ X.warmed
  have h4 : A.cells + (headSpec ws rm).room.cells ≤ R.cells := by rw [show (headSpec ws rm).room.cells = mc from hrc]; exact hp.1
  have h5 : A.slots + (headSpec ws rm).room.slots ≤ R.slots := by rw [show (headSpec ws rm).room.slots = ms from hrs]; exact hp.2.1
  have hPc : Pc a (A.U.calling g mk a) := hblind _ _ _ _ hp.2.2
  obtain ⟨U, Ls, c0, s0⟩ := A
  dsimp only [Pt.U, Pt.locs, Pt.cells, Pt.slots] at h1 h2 h3 h4 h5 X hn hPc ⊢
  obtain ⟨methY, cY, hmY, hcY, -, hlY, -, -, -, -⟩ := Cond.code_spec hn h2
  obtain ⟨kY, hkY, -⟩ := className_of_methodNamed hn
  have hinitY : kY.init = .initialized := Cond.initialized_spec (findClass_of_methodNamed hn) hkY h3
  have h : At U g.method c below := by rw [hg]; exact X.here
  have hlocals9 : W9 + (maxL + 11) + (headSpec ws rm).room.locals ≤ R.locals := hlocals
  have happ : (headSpec ws rm).appliesLoose y e.platform (U.calling g mk a) = true :=
    Spec.appliesLoose_calling (g := g) h hdg hn hkY hinitY
      (X.room_calling (g := g) (R' := (headSpec ws rm).room) hsize hmY hcY hframes (by rw [hlY]; omega) h4 h5) h1
  obtain ⟨mid, hmid⟩ := h.above
  have hfr : (U.setTop g).frames = (.java g :: mid) ++ below := by rw [State.frames_setTop' g h.top, hmid]; rfl
  obtain ⟨o, s₂, hsteps, -, hend, hq⟩ := Steps.callFree hM p X.admits X.cas X.clock (acts := []) hfr happ hPc trivial
  have hq' : vx_Q Qc XC mc ms free a (U.calling g mk a) o s₂ := hq
  rw [State.frames_setTop' g h.top] at hend
  obtain ⟨g₀, hg0⟩ := Option.isSome_iff_exists.mp h.top
  obtain ⟨r, hr⟩ := State.topJava?_eq_some.mp hg0
  have hr' : (({ U with heap := s₂.heap, slotsUsed := s₂.slotsUsed } : State).setVm s₂.vm).frames = .java g₀ :: r := hr
  rcases hq' with ⟨hqc, L, hfe, hL⟩ | ⟨q, rfl, E, ce, L, hx, hce, hcv, hcl, hW₂, hsm, hL⟩
  · obtain ⟨⟨v, rfl⟩, hW₂, e2, q2, q3, q4, q5, q6⟩ := id hfe
    have e3 : s₂ = ({ (U.calling g mk a).setFrames s₂.frames with heap := s₂.heap, slotsUsed := s₂.slotsUsed } : State).setVm s₂.vm := by
      have : s₂ = ({ s₂ with vm := (U.calling g mk a).vm } : State).setVm s₂.vm := rfl
      rw [e2] at this
      exact this
    obtain ⟨c₂, i₂, len₂, hc₂, hd₂, hf₂⟩ := hend
    have hW' : U.WarmedH s₂.vm := hW₂
    have hcc : c₂ = c := by
      have h1 : s₂.code? g.method = U.code? g.method := by
        rw [State.code?_eq, State.code?_eq, hW'.alike.method?]
      exact Option.some.inj (hc₂.symm.trans (h1.trans h.code))
    subst hcc
    have hlen : len₂ = len := by rw [hdg] at hd₂; cases hd₂; rfl
    subst hlen
    have hs₂ : s₂ = (({ U with heap := s₂.heap, slotsUsed := s₂.slotsUsed } : State).setVm s₂.vm).setTop { g with pc := g.pc + len₂, stack := v.toList ++ g.stack } := by
      refine e3.trans ?_
      rw [hf₂, State.calling_eq h.top, State.setFrames_setFrames, State.setTop_of_frames _ hr', hr]
      rfl
    have hsame : U.sameButNew ({ U with heap := s₂.heap, slotsUsed := s₂.slotsUsed } : State) L mc ms := by
      refine ⟨?_, q2, q3, q4, q5, q6⟩
      obtain ⟨t, ht, -⟩ := State.frames_cons hr
      show ({ U with heap := s₂.heap, slotsUsed := s₂.slotsUsed } : State) = { U.setFrames U.frames with heap := s₂.heap, slotsUsed := s₂.slotsUsed }
      rw [State.setFrames_self ht]
    subst hg
    refine Or.inl ⟨v, ⟨(({ U with heap := s₂.heap, slotsUsed := s₂.slotsUsed } : State).setVm s₂.vm), Ls ++ L, c0 + mc, s0 + ms⟩,
      ⟨X.admits, X.cas, X.clock, X.frames, X.room, X.hears, X.method, X.code, (X.here.setHeapUsed s₂.heap s₂.slotsUsed).setVm hW'.alike, X.tail, State.WarmedH.trans X.warmed hW', X.limits, X.bytes, X.same.trans (hsame.setVm s.vm)⟩,
      ⟨g, mk, s₂, L, rfl, rfl, hqc, rfl, hL, rfl, rfl⟩, ?_⟩
    show Steps p.tables e below _ ((({ U with heap := s₂.heap, slotsUsed := s₂.slotsUsed } : State).setVm s₂.vm).setTop { g with pc := g.pc + len₂, stack := v.toList ++ g.stack })
    rw [← hs₂]
    exact hsteps
  · obtain ⟨e2, q2, q3, q4, q5, q6⟩ := id hsm
    have e3 : s₂ = ({ (U.calling g mk a).setFrames s₂.frames with heap := s₂.heap, slotsUsed := s₂.slotsUsed } : State).setVm s₂.vm := by
      have : s₂ = ({ s₂ with vm := (U.calling g mk a).vm } : State).setVm s₂.vm := rfl
      rw [e2] at this
      exact this
    have hf₂ : s₂.frames = .throwing q :: .java g :: U.frames.tail := hend
    have hW' : U.WarmedH s₂.vm := hW₂
    have hs₂ : s₂ = ((({ U with heap := s₂.heap, slotsUsed := s₂.slotsUsed } : State).setVm s₂.vm).setTop g).pushFrame (.throwing q) := by
      refine e3.trans ?_
      rw [hf₂, State.calling_eq h.top, State.setFrames_setFrames, State.pushFrame, State.frames_setTop _ hr', State.setTop_of_frames _ hr', State.setFrames_setFrames, hr]
      rfl
    have hsame : U.sameButNew ({ U with heap := s₂.heap, slotsUsed := s₂.slotsUsed } : State) L mc ms := by
      refine ⟨?_, q2, q3, q4, q5, q6⟩
      obtain ⟨t, ht, -⟩ := State.frames_cons hr
      show ({ U with heap := s₂.heap, slotsUsed := s₂.slotsUsed } : State) = { U.setFrames U.frames with heap := s₂.heap, slotsUsed := s₂.slotsUsed }
      rw [State.setFrames_self ht]
    subst hg
    refine Or.inr ⟨q, ⟨(({ U with heap := s₂.heap, slotsUsed := s₂.slotsUsed } : State).setVm s₂.vm), Ls ++ L, c0 + mc, s0 + ms⟩,
      ⟨X.admits, X.cas, X.clock, X.frames, X.room, X.hears, X.method, X.code, (X.here.setHeapUsed s₂.heap s₂.slotsUsed).setVm hW'.alike, X.tail, State.WarmedH.trans X.warmed hW', X.limits, X.bytes, X.same.trans (hsame.setVm s.vm)⟩,
      ⟨g, mk, s₂, L, E, ce, rfl, rfl, hx, hce, hcv, hcl, rfl, hL, rfl, rfl⟩, ?_⟩
    show Steps p.tables e below _ (((({ U with heap := s₂.heap, slotsUsed := s₂.slotsUsed } : State).setVm s₂.vm).setTop g).pushFrame (.throwing q))
    rw [← hs₂]
    exact hsteps
end Payer
section Calls
variable {p : Program} {l : Launch} {e : Env} {R : Room} {s : State} {m : MethodId} {args : Array Value} {below : List Frame} {meth : Method} {c : Code} {T : State} {locs : List Loc} {cells slots : Nat}
theorem vx_callV (X : Stand p l e R s m args below meth c T locs cells slots) (hexec : p.tables.exec = Jvm.exec) {own C : String} {index : Nat} {y : MethodName} {bytes : ByteArray} {maxL : Nat} {ret : Option FieldType}
    (hown : s.vm.findClass own = some m.cls) (hlink : (Cond.methodLink own index y).before args s = true) (hinst : (Cond.instanceMethod y).before args s = true) (hsel : (Cond.selects C y y).before args s = true)
    (hcode : (Cond.code y bytes maxL ret).before args s = true) (hy : y.cls ≠ "java/lang/invoke/MethodHandle" ∧ y.cls ≠ "java/lang/invoke/VarHandle")
    {W9 : Nat} {Pre : Pt → Array Value → Prop} {Post : Pt → Array Value → Option Value → Pt → Prop} {PostX : Pt → Array Value → Addr → Pt → Prop} (hK : vx_Back l R p e below s args y 3 W9 Pre Post PostX)
    {b : Addr} {cellB : Cell} (hcell : T.heap[b]? = some cellB) (hobj : cellB.vm.isStatics = false) (hcls : s.vm.findClass C = some cellB.cls)
    {g : JFrame} (hg : g.method = m) (hsize : g.locals.size = c.maxLocals) {argsL rest : List Value} (hlen : ∀ sig, parseMethodDescriptor y.desc = some sig → argsL.length = sig.parameters.length)
    (hstack : g.stack = argsL.reverse ++ .ref b :: rest) (hW : 2 * g.monitorRoom + (rest.map fun v => v.category).sum ≤ W9) (hdg : decode c.code g.pc = .ok (.invokevirtual index, 3))
    (hpre : ∀ vm₁, s.WarmedH vm₁ → Pre ⟨T.setVm vm₁, locs, cells, slots⟩ (Value.ref b :: argsL).toArray) :
    (∃ (v : Option Value) (vm₁ : Vm) (B : Pt), s.WarmedH vm₁ ∧ Stand p l e R s m args below meth c B.U B.locs B.cells B.slots ∧ Post ⟨T.setVm vm₁, locs, cells, slots⟩ (Value.ref b :: argsL).toArray v B ∧
      ∀ target, Steps p.tables e below (B.U.setTop { g with pc := g.pc + 3, stack := v.toList ++ rest }) target → Steps p.tables e below (T.setTop g) target) ∨
    (∃ (q : Addr) (vm₁ : Vm) (B : Pt), s.WarmedH vm₁ ∧ Stand p l e R s m args below meth c B.U B.locs B.cells B.slots ∧ PostX ⟨T.setVm vm₁, locs, cells, slots⟩ (Value.ref b :: argsL).toArray q B ∧
      Steps p.tables e below (T.setTop g) ((B.U.setTop { g with stack := rest }).pushFrame (.throwing q))) := by
  obtain ⟨mk, methM, hnamed, hmethM, hstM, habM⟩ := Cond.instanceMethod_spec hinst
  obtain ⟨methM', cM, hmethM', -, -, -, -, -, -, hsigM⟩ := Cond.code_spec hnamed hcode
  cases hmethM.symm.trans hmethM'
  obtain ⟨c2, r2, m2, q1, q2, q3, q4, kP, hkP, hkPi⟩ := Cond.selects_spec hsel
  cases hcls.symm.trans q1
  cases (State.methodFound?_of_named hnamed hy).symm.trans q2
  cases hnamed.symm.trans q3
  have hselP : selectMethod e.platform s.vm cellB.cls mk = .method mk := by rw [Launch.admits_selectMethod X.admits]; exact q4
  obtain ⟨vm₁, X₁, hstep₁⟩ := X.invokevirtual hexec hown hlink hnamed hmethM hstM hkP hkPi hy (a := b) (cell := cellB) hcell
    (fun z h => by rw [h] at hobj; cases hobj) hselP hmethM habM hkP hkPi (g := g) hg (argsL := argsL) (rest := rest) (hlen _ hsigM) hstack hdg
  rcases hK m meth c ⟨T.setVm vm₁, locs, cells, slots⟩ { g with stack := rest } (.invokevirtual index) mk (Value.ref b :: argsL).toArray X₁ hg hsize hdg hW (X₁.named hnamed) (hpre vm₁ X₁.warmed) with ⟨v, B, X', hpost, hsteps⟩ | ⟨q, B, X', hpost, hsteps⟩
  · exact Or.inl ⟨v, vm₁, B, X₁.warmed, X', hpost, fun target h => hstep₁ _ fun acts => by rw [doInvoke_state]; exact hsteps.trans h⟩
  · exact Or.inr ⟨q, vm₁, B, X₁.warmed, X', hpost, hstep₁ _ fun acts => by rw [doInvoke_state]; exact hsteps⟩
theorem vx_callS (X : Stand p l e R s m args below meth c T locs cells slots) (hexec : p.tables.exec = Jvm.exec) {own : String} {index : Nat} {y : MethodName} {bytes : ByteArray} {maxL : Nat} {ret : Option FieldType}
    (hown : s.vm.findClass own = some m.cls) (hlink : (Cond.methodLink own index y).before args s = true) (hstat : (Cond.static y).before args s = true) (hinit : (Cond.initialized y.cls).before args s = true)
    (hcode : (Cond.code y bytes maxL ret).before args s = true) (hy : y.cls ≠ "java/lang/invoke/MethodHandle" ∧ y.cls ≠ "java/lang/invoke/VarHandle")
    {W9 : Nat} {Pre : Pt → Array Value → Prop} {Post : Pt → Array Value → Option Value → Pt → Prop} {PostX : Pt → Array Value → Addr → Pt → Prop} (hK : vx_Back l R p e below s args y 3 W9 Pre Post PostX)
    {g : JFrame} (hg : g.method = m) (hsize : g.locals.size = c.maxLocals) {argsL rest : List Value} (hlen : ∀ sig, parseMethodDescriptor y.desc = some sig → argsL.length = sig.parameters.length)
    (hstack : g.stack = argsL.reverse ++ rest) (hW : 2 * g.monitorRoom + (rest.map fun v => v.category).sum ≤ W9) (hdg : decode c.code g.pc = .ok (.invokestatic index, 3))
    (hpre : ∀ vm₁, s.WarmedH vm₁ → Pre ⟨T.setVm vm₁, locs, cells, slots⟩ argsL.toArray) :
    (∃ (v : Option Value) (vm₁ : Vm) (B : Pt), s.WarmedH vm₁ ∧ Stand p l e R s m args below meth c B.U B.locs B.cells B.slots ∧ Post ⟨T.setVm vm₁, locs, cells, slots⟩ argsL.toArray v B ∧
      ∀ target, Steps p.tables e below (B.U.setTop { g with pc := g.pc + 3, stack := v.toList ++ rest }) target → Steps p.tables e below (T.setTop g) target) ∨
    (∃ (q : Addr) (vm₁ : Vm) (B : Pt), s.WarmedH vm₁ ∧ Stand p l e R s m args below meth c B.U B.locs B.cells B.slots ∧ PostX ⟨T.setVm vm₁, locs, cells, slots⟩ argsL.toArray q B ∧
      Steps p.tables e below (T.setTop g) ((B.U.setTop { g with stack := rest }).pushFrame (.throwing q))) := by
  obtain ⟨mk, hnamed⟩ := Cond.code_named hcode
  obtain ⟨methM, cM, hmethM, -, -, -, -, -, -, hsigM⟩ := Cond.code_spec hnamed hcode
  have hstatic : methM.isStatic = true := Cond.static_spec hnamed hmethM hstat
  obtain ⟨kP, hkP, -⟩ := className_of_methodNamed hnamed
  have hinitP : kP.init = .initialized := Cond.initialized_spec (findClass_of_methodNamed hnamed) hkP hinit
  obtain ⟨vm₁, X₁, hstep₁⟩ := X.invokestatic hexec hown hlink hnamed hmethM hstatic hkP hinitP hy (g := g) hg (argsL := argsL) (rest := rest) (hlen _ hsigM) hstack hdg
  rcases hK m meth c ⟨T.setVm vm₁, locs, cells, slots⟩ { g with stack := rest } (.invokestatic index) mk argsL.toArray X₁ hg hsize hdg hW (X₁.named hnamed) (hpre vm₁ X₁.warmed) with ⟨v, B, X', hpost, hsteps⟩ | ⟨q, B, X', hpost, hsteps⟩
  · exact Or.inl ⟨v, vm₁, B, X₁.warmed, X', hpost, fun target h => hstep₁ _ fun acts => by rw [doInvoke_state]; exact hsteps.trans h⟩
  · exact Or.inr ⟨q, vm₁, B, X₁.warmed, X', hpost, hstep₁ _ fun acts => by rw [doInvoke_state]; exact hsteps⟩
end Calls
theorem vx_cls {s : State} {T : State} {vm₁ : Vm} {E : String} {k : ClassId} (hW : s.WarmedH vm₁) (h : (T.setVm vm₁).vm.findClass E = some k) : s.vm.findClass E = some k := by
  have h1 : vm₁.findClass E = some k := h
  rw [hW.alike.findClass] at h1
  exact h1
/-- the method's frame g, with q thrown over it -/
def vx_W (p : Program) (l : Launch) (e : Env) (R : Room) (s : State) (m : MethodId) (args : Array Value) (below : List Frame) (meth : Method) (c : Code) (H : Heap) (locs : List Loc) (cells slots : Nat) (Q : State → Prop) (g : JFrame) (q : Addr) : Prop :=
  ∀ T : State, T.heap = H → Stand p l e R s m args below meth c T locs cells slots → ∃ t, Steps p.tables e below ((T.setTop g).pushFrame (.throwing q)) t ∧ Q t
def vx_Run (p : Program) (l : Launch) (e : Env) (R : Room) (s : State) (m : MethodId) (args : Array Value) (below : List Frame) (meth : Method) (c : Code) (H : Heap) (locs : List Loc) (cells slots mc ms : Nat) (g : JFrame) (rest : List Value) (Qa : State → Outcome → State → Prop) (XC : String → State → State → Prop) (free : Addr → Prop) : Prop :=
  ∀ T : State, T.heap = H → Stand p l e R s m args below meth c T locs cells slots →
    (∃ (v : Option Value) (st₀ t T' : State) (L : List Loc), st₀.heap = H ∧ Stand p l e R s m args below meth c T' (locs ++ L) (cells + mc) (slots + ms) ∧ (∀ q ∈ L, free q.base) ∧ T'.heap = t.heap ∧ T'.vm = t.vm ∧ Qa st₀ (.returned v) t ∧
      Goes p e below T g T' { g with pc := g.pc + 3, stack := v.toList ++ rest }) ∨
    (∃ (q : Addr) (st₀ t T' : State) (L : List Loc) (E : String) (ce : Cell), st₀.heap = H ∧ Stand p l e R s m args below meth c T' (locs ++ L) (cells + mc) (slots + ms) ∧ (∀ z ∈ L, free z.base) ∧ T'.heap = t.heap ∧ T'.vm = t.vm ∧ XC E st₀ t ∧ t.heap[q]? = some ce ∧ ce.vm = .none ∧ s.vm.findClass E = some ce.cls ∧
      Steps p.tables e below (T.setTop g) ((T'.setTop { g with stack := rest }).pushFrame (.throwing q)))
def vx_X {S : Type} (px : S → Prop) (B : String → S → State → Prop) (A : Nat → Prop) : String → State → State → Prop := fun E st t => ∃ u : S, px u ∧ B E u t ∧ va_F A st t
section Runs
variable {p : Program} {l : Launch} {e : Env} {R : Room} {s : State} {m : MethodId} {args : Array Value} {below : List Frame} {meth : Method} {c : Code} {H : Heap} {locs : List Loc} {cells slots : Nat}
variable {y : MethodName} {bytes cc : ByteArray} {maxL nL mc ms n index : Nat} {ret : Option FieldType} {ws : List Cond} {rm : Room} {Pc : Array Value → State → Prop} {Qc : Array Value → State → Outcome → State → Prop} {XC : String → State → State → Prop} {free : Addr → Prop} {Ts : List Cond} {own C : String} {b : Addr} {As rest : List Value} {g : JFrame}
theorem vx_callBack (cb : CallB R s args own index y bytes maxL ret ws rm mc ms n) (hM : vx_Met l y ws rm Pc Qc XC mc ms free) (hbl : FrameBlind Pc) : vx_Back l R p e below s args y 3 8 (PreOf R mc ms Pc) (PostOf Qc mc ms free) (vx_Post XC mc ms free) := by
  obtain ⟨hrc, hrs, hfr, hlo, hws, hcw, -, hini, -⟩ := cb
  exact vx_back (bytes := bytes) (maxL := maxL) (ret := ret) hM hbl hrc hrs hfr hlo hws hcw (fun a' U hW => word_at hW (Or.inl (by first | rfl | simp [Cond.onTables, Cond.keeps, Cond.steady])) hini)
theorem vx_runV (S : CallFix p m c cc nL s args Ts own) (hM : vx_Met l y ws rm Pc Qc XC mc ms free) (cw : CallW R s args own C index y bytes maxL ret ws rm mc ms n) (hp : PreV s H C b Pc As)
    (hg : g.method = m) (hn : As.length = n) (hsize : g.locals.size = nL) (hstack : g.stack = As.reverse ++ .ref b :: rest) (hW : 2 * g.monitorRoom + (rest.map fun v => v.category).sum ≤ 8) (hdg : decode cc g.pc = .ok (.invokevirtual index, 3)) (hf : cells + mc ≤ R.cells ∧ slots + ms ≤ R.slots) :
    vx_Run p l e R s m args below meth c H locs cells slots mc ms g rest (Qc (Value.ref b :: As).toArray) XC free := by
  have hK : vx_Back l R p e below s args y 3 8 (PreOf R mc ms Pc) (PostOf Qc mc ms free) (vx_Post XC mc ms free) := vx_callBack cw.1 hM hp.1
  obtain ⟨⟨-, -, -, -, -, -, hcode, -, hy, hlen, hl⟩, hin, hse⟩ := cw
  obtain ⟨hx, hb, hml, ho, -⟩ := S
  obtain ⟨-, ⟨cellB, hcB, hoB, hclB⟩, hPc⟩ := hp
  intro T hT X
  rcases vx_callV X hx (C := C) (bytes := bytes) (maxL := maxL) (ret := ret) ho hl hin hse hcode hy hK (by rw [hT]; exact hcB) hoB hclB hg (hsize.trans hml.symm) (argsL := As) (rest := rest) (fun sig h => hn.trans (hlen sig h)) hstack hW (by rw [hb]; exact hdg)
    (fun vm₁ hW₁ => ⟨hf.1, hf.2, hPc (T.setVm vm₁) hT hW₁⟩) with ⟨v, vm₁, ⟨U', l2, c2, s2⟩, hW₁, X', ⟨g', mk, t, L, e1, e2, hq, h1, hL, h2, h3⟩, st⟩ | ⟨q, vm₁, ⟨U', l2, c2, s2⟩, hW₁, X', ⟨g', mk, t, L, E, ce, e1, e2, hq, hce, hcv, hcl, h1, hL, h2, h3⟩, st⟩
  · dsimp only [Pt.U, Pt.locs, Pt.cells, Pt.slots] at X' e1 e2 h1 h2 h3 st
    subst h1; subst h2; subst h3
    exact Or.inl ⟨v, (T.setVm vm₁).calling g' mk (Value.ref b :: As).toArray, t, U', L, hT, X', hL, e1, e2, hq, st⟩
  · dsimp only [Pt.U, Pt.locs, Pt.cells, Pt.slots] at X' e1 e2 h1 h2 h3 st hcl
    subst h1; subst h2; subst h3
    exact Or.inr ⟨q, (T.setVm vm₁).calling g' mk (Value.ref b :: As).toArray, t, U', L, E, ce, hT, X', hL, e1, e2, hq, hce, hcv, vx_cls hW₁ hcl, st⟩
theorem vx_runS (S : CallFix p m c cc nL s args Ts own) (hM : vx_Met l y ws rm Pc Qc XC mc ms free) (cw : CallB R s args own index y bytes maxL ret ws rm mc ms n ∧ (Cond.static y).before args s = true) (hp : PreS s H Pc As)
    (hg : g.method = m) (hn : As.length = n) (hsize : g.locals.size = nL) (hstack : g.stack = As.reverse ++ rest) (hW : 2 * g.monitorRoom + (rest.map fun v => v.category).sum ≤ 8) (hdg : decode cc g.pc = .ok (.invokestatic index, 3)) (hf : cells + mc ≤ R.cells ∧ slots + ms ≤ R.slots) :
    vx_Run p l e R s m args below meth c H locs cells slots mc ms g rest (Qc As.toArray) XC free := by
  have hK : vx_Back l R p e below s args y 3 8 (PreOf R mc ms Pc) (PostOf Qc mc ms free) (vx_Post XC mc ms free) := vx_callBack cw.1 hM hp.1
  obtain ⟨⟨-, -, -, -, -, -, hcode, hini, hy, hlen, hl⟩, hstt⟩ := cw
  obtain ⟨hx, hb, hml, ho, -⟩ := S
  intro T hT X
  rcases vx_callS X hx (bytes := bytes) (maxL := maxL) (ret := ret) ho hl hstt hini hcode hy hK hg (hsize.trans hml.symm) (argsL := As) (rest := rest) (fun sig h => hn.trans (hlen sig h)) hstack hW (by rw [hb]; exact hdg)
    (fun vm₁ hW₁ => ⟨hf.1, hf.2, hp.2 (T.setVm vm₁) hT hW₁⟩) with ⟨v, vm₁, ⟨U', l2, c2, s2⟩, hW₁, X', ⟨g', mk, t, L, e1, e2, hq, h1, hL, h2, h3⟩, st⟩ | ⟨q, vm₁, ⟨U', l2, c2, s2⟩, hW₁, X', ⟨g', mk, t, L, E, ce, e1, e2, hq, hce, hcv, hcl, h1, hL, h2, h3⟩, st⟩
  · dsimp only [Pt.U, Pt.locs, Pt.cells, Pt.slots] at X' e1 e2 h1 h2 h3 st
    subst h1; subst h2; subst h3
    exact Or.inl ⟨v, (T.setVm vm₁).calling g' mk As.toArray, t, U', L, hT, X', hL, e1, e2, hq, st⟩
  · dsimp only [Pt.U, Pt.locs, Pt.cells, Pt.slots] at X' e1 e2 h1 h2 h3 st hcl
    subst h1; subst h2; subst h3
    exact Or.inr ⟨q, (T.setVm vm₁).calling g' mk As.toArray, t, U', L, E, ce, hT, X', hL, e1, e2, hq, hce, hcv, vx_cls hW₁ hcl, st⟩
end Runs
section Rows
variable {p : Program} {l : Launch} {e : Env} {R : Room} {s : State} {m : MethodId} {args : Array Value} {below : List Frame} {meth : Method} {c : Code} {H : Heap} {locs : List Loc} {cells slots : Nat} {Q : State → Prop}
variable {mc ms : Nat} {free : Addr → Prop} {A0 A1 : Nat → Prop} {H0 : Heap} {a : Array Value} {pc : Nat} {ls : Array Slot} {st0 rest : List Value}
theorem vx_keep {st₀ t T' : State} {L : List Loc} (h0 : st₀.heap = H) (e1 : T'.heap = t.heap) (hS : va_S A0 H0 H locs) (hA : ∀ q, q < H.size → A1 q → A0 q) (hf : ∀ q, free q → A0 q) (hL : ∀ q ∈ L, free q.base) (hF : va_F A1 st₀ t) :
    H.size ≤ T'.heap.size ∧ (∀ q : Nat, q < H.size → ¬ A1 q → T'.heap[q]? = H[q]?) ∧ va_S A0 H0 T'.heap (locs ++ L) := by
  obtain ⟨hz, hk⟩ := hF
  rw [h0] at hz hk
  exact ⟨by rw [e1]; exact hz, fun q h1 h2 => by rw [e1]; exact hk q h1 h2,
    ⟨Nat.le_trans hS.1 (by rw [e1]; exact hz), fun q h1 h2 => by rw [e1, hk q (Nat.lt_of_lt_of_le h1 hS.1) (fun z => h2 (hA q (Nat.lt_of_lt_of_le h1 hS.1) z))]; exact hS.2.1 q h1 h2, fun q hq => by
      rcases List.mem_append.mp hq with h | h
      · exact hS.2.2 q h
      · exact hf _ (hL q h)⟩⟩
theorem vx_calli {S SX : Type} {post : Int32 → S → Prop} {px : SX → Prop} {B : S → State → Prop} {BX : String → SX → State → Prop} {AX : Nat → Prop} (hr : vx_Run p l e R s m args below meth c H locs cells slots mc ms (F0 m pc ls st0) rest (va_Qi post B A1 a) (vx_X px BX AX) free) (hS : va_S A0 H0 H locs) (hA : ∀ q, q < H.size → A1 q → A0 q) (hf : ∀ q, free q → A0 q) (hAX : ∀ q, q < H.size → AX q → A0 q)
    (kx : ∀ (E : String) (ce : Cell) (q9 : Addr) (u : SX) (t : State) (H1 : Heap) (locs1 : List Loc), t.heap = H1 → s.vm.Alike t.vm → px u → BX E u t → H.size ≤ H1.size → (∀ q : Nat, q < H.size → ¬ AX q → H1[q]? = H[q]?) → va_S A0 H0 H1 locs1 → H1[q9]? = some ce → ce.vm = .none → s.vm.findClass E = some ce.cls → vx_W p l e R s m args below meth c H1 locs1 (cells + mc) (slots + ms) Q (F0 m pc ls rest) q9)
    (kk : ∀ (r : Int32) (u : S) (t : State) (H1 : Heap) (locs1 : List Loc), t.heap = H1 → s.vm.Alike t.vm → post r u → B u t → H.size ≤ H1.size → (∀ q : Nat, q < H.size → ¬ A1 q → H1[q]? = H[q]?) → va_S A0 H0 H1 locs1 → W p l e R s m args below meth c H1 locs1 (cells + mc) (slots + ms) Q (F0 m (pc + 3) ls (.int r :: rest))) : W p l e R s m args below meth c H locs cells slots Q (F0 m pc ls st0) := by
  intro T hT X
  rcases hr T hT X with ⟨v, st₀, t, T', L, h0, X', hL, e1, e2, ⟨⟨r, u, hv, hp, hb⟩, hF⟩, st⟩ | ⟨q, st₀, t, T', L, E, ce, h0, X', hL, e1, e2, ⟨u, hp, hb, hF⟩, hce, hcv, hcl, st⟩
  · cases hv
    obtain ⟨k1, k2, k3⟩ := vx_keep h0 e1 hS hA hf hL hF
    obtain ⟨t2, a1, b1⟩ := kk r u t T'.heap (locs ++ L) e1.symm (by rw [← e2]; exact X'.warmed.alike) hp hb k1 k2 k3 T' rfl X'
    exact ⟨t2, st t2 a1, b1⟩
  · obtain ⟨k1, k2, k3⟩ := vx_keep h0 e1 hS hAX hf hL hF
    obtain ⟨t2, a1, b1⟩ := kx E ce q u t T'.heap (locs ++ L) e1.symm (by rw [← e2]; exact X'.warmed.alike) hp hb k1 k2 k3 (by rw [e1]; exact hce) hcv hcl T' rfl X'
    exact ⟨t2, st.trans a1, b1⟩
theorem vx_calll {S SX : Type} {post : Int64 → S → Prop} {px : SX → Prop} {B : S → State → Prop} {BX : String → SX → State → Prop} {AX : Nat → Prop} (hr : vx_Run p l e R s m args below meth c H locs cells slots mc ms (F0 m pc ls st0) rest (va_Ql post B A1 a) (vx_X px BX AX) free) (hS : va_S A0 H0 H locs) (hA : ∀ q, q < H.size → A1 q → A0 q) (hf : ∀ q, free q → A0 q) (hAX : ∀ q, q < H.size → AX q → A0 q)
    (kx : ∀ (E : String) (ce : Cell) (q9 : Addr) (u : SX) (t : State) (H1 : Heap) (locs1 : List Loc), t.heap = H1 → s.vm.Alike t.vm → px u → BX E u t → H.size ≤ H1.size → (∀ q : Nat, q < H.size → ¬ AX q → H1[q]? = H[q]?) → va_S A0 H0 H1 locs1 → H1[q9]? = some ce → ce.vm = .none → s.vm.findClass E = some ce.cls → vx_W p l e R s m args below meth c H1 locs1 (cells + mc) (slots + ms) Q (F0 m pc ls rest) q9)
    (kk : ∀ (r : Int64) (u : S) (t : State) (H1 : Heap) (locs1 : List Loc), t.heap = H1 → s.vm.Alike t.vm → post r u → B u t → H.size ≤ H1.size → (∀ q : Nat, q < H.size → ¬ A1 q → H1[q]? = H[q]?) → va_S A0 H0 H1 locs1 → W p l e R s m args below meth c H1 locs1 (cells + mc) (slots + ms) Q (F0 m (pc + 3) ls (.long r :: rest))) : W p l e R s m args below meth c H locs cells slots Q (F0 m pc ls st0) := by
  intro T hT X
  rcases hr T hT X with ⟨v, st₀, t, T', L, h0, X', hL, e1, e2, ⟨⟨r, u, hv, hp, hb⟩, hF⟩, st⟩ | ⟨q, st₀, t, T', L, E, ce, h0, X', hL, e1, e2, ⟨u, hp, hb, hF⟩, hce, hcv, hcl, st⟩
  · cases hv
    obtain ⟨k1, k2, k3⟩ := vx_keep h0 e1 hS hA hf hL hF
    obtain ⟨t2, a1, b1⟩ := kk r u t T'.heap (locs ++ L) e1.symm (by rw [← e2]; exact X'.warmed.alike) hp hb k1 k2 k3 T' rfl X'
    exact ⟨t2, st t2 a1, b1⟩
  · obtain ⟨k1, k2, k3⟩ := vx_keep h0 e1 hS hAX hf hL hF
    obtain ⟨t2, a1, b1⟩ := kx E ce q u t T'.heap (locs ++ L) e1.symm (by rw [← e2]; exact X'.warmed.alike) hp hb k1 k2 k3 (by rw [e1]; exact hce) hcv hcl T' rfl X'
    exact ⟨t2, st.trans a1, b1⟩
theorem vx_callf {S SX : Type} {post : UInt32 → S → Prop} {px : SX → Prop} {B : S → State → Prop} {BX : String → SX → State → Prop} {AX : Nat → Prop} (hr : vx_Run p l e R s m args below meth c H locs cells slots mc ms (F0 m pc ls st0) rest (va_Qf post B A1 a) (vx_X px BX AX) free) (hS : va_S A0 H0 H locs) (hA : ∀ q, q < H.size → A1 q → A0 q) (hf : ∀ q, free q → A0 q) (hAX : ∀ q, q < H.size → AX q → A0 q)
    (kx : ∀ (E : String) (ce : Cell) (q9 : Addr) (u : SX) (t : State) (H1 : Heap) (locs1 : List Loc), t.heap = H1 → s.vm.Alike t.vm → px u → BX E u t → H.size ≤ H1.size → (∀ q : Nat, q < H.size → ¬ AX q → H1[q]? = H[q]?) → va_S A0 H0 H1 locs1 → H1[q9]? = some ce → ce.vm = .none → s.vm.findClass E = some ce.cls → vx_W p l e R s m args below meth c H1 locs1 (cells + mc) (slots + ms) Q (F0 m pc ls rest) q9)
    (kk : ∀ (r : UInt32) (u : S) (t : State) (H1 : Heap) (locs1 : List Loc), t.heap = H1 → s.vm.Alike t.vm → post r u → B u t → H.size ≤ H1.size → (∀ q : Nat, q < H.size → ¬ A1 q → H1[q]? = H[q]?) → va_S A0 H0 H1 locs1 → W p l e R s m args below meth c H1 locs1 (cells + mc) (slots + ms) Q (F0 m (pc + 3) ls (.float r :: rest))) : W p l e R s m args below meth c H locs cells slots Q (F0 m pc ls st0) := by
  intro T hT X
  rcases hr T hT X with ⟨v, st₀, t, T', L, h0, X', hL, e1, e2, ⟨⟨r, u, hv, hp, hb⟩, hF⟩, st⟩ | ⟨q, st₀, t, T', L, E, ce, h0, X', hL, e1, e2, ⟨u, hp, hb, hF⟩, hce, hcv, hcl, st⟩
  · cases hv
    obtain ⟨k1, k2, k3⟩ := vx_keep h0 e1 hS hA hf hL hF
    obtain ⟨t2, a1, b1⟩ := kk r u t T'.heap (locs ++ L) e1.symm (by rw [← e2]; exact X'.warmed.alike) hp hb k1 k2 k3 T' rfl X'
    exact ⟨t2, st t2 a1, b1⟩
  · obtain ⟨k1, k2, k3⟩ := vx_keep h0 e1 hS hAX hf hL hF
    obtain ⟨t2, a1, b1⟩ := kx E ce q u t T'.heap (locs ++ L) e1.symm (by rw [← e2]; exact X'.warmed.alike) hp hb k1 k2 k3 (by rw [e1]; exact hce) hcv hcl T' rfl X'
    exact ⟨t2, st.trans a1, b1⟩
theorem vx_calld {S SX : Type} {post : UInt64 → S → Prop} {px : SX → Prop} {B : S → State → Prop} {BX : String → SX → State → Prop} {AX : Nat → Prop} (hr : vx_Run p l e R s m args below meth c H locs cells slots mc ms (F0 m pc ls st0) rest (va_Qd post B A1 a) (vx_X px BX AX) free) (hS : va_S A0 H0 H locs) (hA : ∀ q, q < H.size → A1 q → A0 q) (hf : ∀ q, free q → A0 q) (hAX : ∀ q, q < H.size → AX q → A0 q)
    (kx : ∀ (E : String) (ce : Cell) (q9 : Addr) (u : SX) (t : State) (H1 : Heap) (locs1 : List Loc), t.heap = H1 → s.vm.Alike t.vm → px u → BX E u t → H.size ≤ H1.size → (∀ q : Nat, q < H.size → ¬ AX q → H1[q]? = H[q]?) → va_S A0 H0 H1 locs1 → H1[q9]? = some ce → ce.vm = .none → s.vm.findClass E = some ce.cls → vx_W p l e R s m args below meth c H1 locs1 (cells + mc) (slots + ms) Q (F0 m pc ls rest) q9)
    (kk : ∀ (r : UInt64) (u : S) (t : State) (H1 : Heap) (locs1 : List Loc), t.heap = H1 → s.vm.Alike t.vm → post r u → B u t → H.size ≤ H1.size → (∀ q : Nat, q < H.size → ¬ A1 q → H1[q]? = H[q]?) → va_S A0 H0 H1 locs1 → W p l e R s m args below meth c H1 locs1 (cells + mc) (slots + ms) Q (F0 m (pc + 3) ls (.double r :: rest))) : W p l e R s m args below meth c H locs cells slots Q (F0 m pc ls st0) := by
  intro T hT X
  rcases hr T hT X with ⟨v, st₀, t, T', L, h0, X', hL, e1, e2, ⟨⟨r, u, hv, hp, hb⟩, hF⟩, st⟩ | ⟨q, st₀, t, T', L, E, ce, h0, X', hL, e1, e2, ⟨u, hp, hb, hF⟩, hce, hcv, hcl, st⟩
  · cases hv
    obtain ⟨k1, k2, k3⟩ := vx_keep h0 e1 hS hA hf hL hF
    obtain ⟨t2, a1, b1⟩ := kk r u t T'.heap (locs ++ L) e1.symm (by rw [← e2]; exact X'.warmed.alike) hp hb k1 k2 k3 T' rfl X'
    exact ⟨t2, st t2 a1, b1⟩
  · obtain ⟨k1, k2, k3⟩ := vx_keep h0 e1 hS hAX hf hL hF
    obtain ⟨t2, a1, b1⟩ := kx E ce q u t T'.heap (locs ++ L) e1.symm (by rw [← e2]; exact X'.warmed.alike) hp hb k1 k2 k3 (by rw [e1]; exact hce) hcv hcl T' rfl X'
    exact ⟨t2, st.trans a1, b1⟩
theorem vx_callv {S SX : Type} {post : S → Prop} {px : SX → Prop} {B : S → State → Prop} {BX : String → SX → State → Prop} {AX : Nat → Prop} (hr : vx_Run p l e R s m args below meth c H locs cells slots mc ms (F0 m pc ls st0) rest (va_Qv post B A1 a) (vx_X px BX AX) free) (hS : va_S A0 H0 H locs) (hA : ∀ q, q < H.size → A1 q → A0 q) (hf : ∀ q, free q → A0 q) (hAX : ∀ q, q < H.size → AX q → A0 q)
    (kx : ∀ (E : String) (ce : Cell) (q9 : Addr) (u : SX) (t : State) (H1 : Heap) (locs1 : List Loc), t.heap = H1 → s.vm.Alike t.vm → px u → BX E u t → H.size ≤ H1.size → (∀ q : Nat, q < H.size → ¬ AX q → H1[q]? = H[q]?) → va_S A0 H0 H1 locs1 → H1[q9]? = some ce → ce.vm = .none → s.vm.findClass E = some ce.cls → vx_W p l e R s m args below meth c H1 locs1 (cells + mc) (slots + ms) Q (F0 m pc ls rest) q9)
    (kk : ∀ (u : S) (t : State) (H1 : Heap) (locs1 : List Loc), t.heap = H1 → s.vm.Alike t.vm → post u → B u t → H.size ≤ H1.size → (∀ q : Nat, q < H.size → ¬ A1 q → H1[q]? = H[q]?) → va_S A0 H0 H1 locs1 → W p l e R s m args below meth c H1 locs1 (cells + mc) (slots + ms) Q (F0 m (pc + 3) ls (rest))) : W p l e R s m args below meth c H locs cells slots Q (F0 m pc ls st0) := by
  intro T hT X
  rcases hr T hT X with ⟨v, st₀, t, T', L, h0, X', hL, e1, e2, ⟨⟨u, hv, hp, hb⟩, hF⟩, st⟩ | ⟨q, st₀, t, T', L, E, ce, h0, X', hL, e1, e2, ⟨u, hp, hb, hF⟩, hce, hcv, hcl, st⟩
  · cases hv
    obtain ⟨k1, k2, k3⟩ := vx_keep h0 e1 hS hA hf hL hF
    obtain ⟨t2, a1, b1⟩ := kk u t T'.heap (locs ++ L) e1.symm (by rw [← e2]; exact X'.warmed.alike) hp hb k1 k2 k3 T' rfl X'
    exact ⟨t2, st t2 a1, b1⟩
  · obtain ⟨k1, k2, k3⟩ := vx_keep h0 e1 hS hAX hf hL hF
    obtain ⟨t2, a1, b1⟩ := kx E ce q u t T'.heap (locs ++ L) e1.symm (by rw [← e2]; exact X'.warmed.alike) hp hb k1 k2 k3 (by rw [e1]; exact hce) hcv hcl T' rfl X'
    exact ⟨t2, st.trans a1, b1⟩
/-- caught by the row x of this method's table; the rows ahead don't take it -/
theorem vx_catch {own name : String} {E : String} {ce : Cell} {q : Addr} (hown : s.vm.findClass own = some m.cls) (pre : List ExceptionTableEntry) (x : ExceptionTableEntry) (suf : List ExceptionTableEntry) (hsplit : c.exceptionTable.toList = pre ++ x :: suf)
    (hpass : ∀ z ∈ pre, covers z pc = false ∨ (z.catchType ≠ 0 ∧ ∃ nm : String, (Cond.classLink own z.catchType nm).before args s = true ∧ va_Nc E nm s)) (hx : covers x pc = true) (h0 : x.catchType ≠ 0)
    (hlink : (Cond.classLink own x.catchType name).before args s = true) (hcast : (Cond.castable E name).before args s = true) (hcell : H[q]? = some ce) (hv : ce.vm = .none) (hcl : s.vm.findClass E = some ce.cls)
    (kk : W p l e R s m args below meth c H locs cells slots Q (F0 m x.handlerPc ls [.ref q])) : vx_W p l e R s m args below meth c H locs cells slots Q (F0 m pc ls rest) q := by
  intro T hT X
  have hpl : e.platform.magicAccessors = ({} : Platform).magicAccessors := by rw [X.admits.platform]
  obtain ⟨c3, c4, hc3, hc4, hasg⟩ := Cond.castable_spec hcast
  cases Option.some.inj (hc3.symm.trans hcl)
  obtain ⟨c5, hc5, hcl5⟩ := Cond.classLink_spec hown hlink e.platform hpl
  cases Option.some.inj (hc4.symm.trans hc5)
  obtain ⟨vm', X', st⟩ := X.thenCaughtThrough q (g := F0 m pc ls rest) rfl (Steps.refl _) (by rw [hT]; exact hcell) (by rw [hv]; rfl) (by obtain ⟨k9, h9, -⟩ := Vm.findClass_spec hcl; exact ⟨k9, h9⟩) pre x suf hsplit
    (fun z hz => by
      rcases hpass z hz with h | ⟨hz0, nm, hl1, hn1⟩
      · exact Or.inl h
      · obtain ⟨c6, hc6, hcl6⟩ := Cond.classLink_spec hown hl1 e.platform hpl
        obtain ⟨a8, b8, h1, h2, h3⟩ := hn1
        cases Option.some.inj (h1.symm.trans hcl)
        cases Option.some.inj (h2.symm.trans hc6)
        exact Or.inr ⟨hz0, _, hcl6, h3⟩) hx (Or.inr ⟨h0, c4, hcl5, hasg⟩)
  obtain ⟨t, a1, b1⟩ := kk (T.setVm vm') hT X'
  exact ⟨t, st.trans a1, b1⟩
end Rows
section Ends
variable {p : Program} {l : Launch} {e : Env} {R : Room} {s : State} {m : MethodId} {args : Array Value} {below : List Frame} {meth : Method} {c : Code} {H : Heap} {locs : List Loc} {cells slots : Nat} {Q : State → Prop}
variable {mc ms : Nat} {free : Addr → Prop} {A0 A1 : Nat → Prop} {H0 : Heap} {a : Array Value} {ls : Array Slot} {st0 rest : List Value}
variable {Qc : Array Value → State → Outcome → State → Prop} {XC : String → State → State → Prop}
/-- what a body that may throw owes at its end -/
def vx_MQ (below : List Frame) (Qc : Array Value → State → Outcome → State → Prop) (XC : String → State → State → Prop) (a : Array Value) (s : State) (mc ms : Nat) (free : Addr → Prop) : State → Prop := fun t =>
  ∃ o, t.status = .running ∧ Ended t below o ∧ vx_Q Qc XC mc ms free a s o t
theorem vx_ret {g : JFrame} {mc ms : Nat} (k : W p l e R s m args below meth c H locs cells slots (MQ below Qc args s mc ms free) g) : W p l e R s m args below meth c H locs cells slots (vx_MQ below Qc XC args s mc ms free) g := by
  intro T hT X
  obtain ⟨t, a1, o, b1, b2, b3, b4⟩ := k T hT X
  exact ⟨t, a1, o, b1, b2, Or.inl ⟨b3, b4⟩⟩
/-- not caught here: it goes on to the caller -/
theorem vx_widen {g : JFrame} {q : Addr} {k n : Nat} (h1 : cells ≤ k) (h2 : slots ≤ n) (kk : vx_W p l e R s m args below meth c H locs k n Q g q) : vx_W p l e R s m args below meth c H locs cells slots Q g q := fun T hT X => kk T hT (stand_widen X h1 h2)
theorem vx_out {pc : Nat} {E : String} {ce : Cell} {q : Addr} {mc ms : Nat} (hout : ∀ x ∈ c.exceptionTable.toList, covers x pc = false) (hlocks : meth.locks = false) (hcell : H[q]? = some ce) (hv : ce.vm = .none) (hcl : s.vm.findClass E = some ce.cls)
    (hx : ∀ t : State, t.heap = H → s.vm.Alike t.vm → XC E s t) (hf : ∀ z ∈ locs, free z.base) (hc : cells ≤ mc) (hs : slots ≤ ms) :
    vx_W p l e R s m args below meth c H locs cells slots (vx_MQ below Qc XC args s mc ms free) (F0 m pc ls rest) q := by
  intro T hT X
  obtain ⟨st1, hrun, hend, hW, hsm⟩ := X.leaveThrown q (g := F0 m pc ls rest) rfl rfl rfl hout hlocks
  have hcell9 : (T.setFrames (.throwing q :: below)).heap[q]? = some ce := by
    show T.heap[q]? = some ce
    rw [hT]; exact hcell
  exact ⟨_, st1, .threw q, hrun, hend, Or.inr ⟨q, rfl, E, ce, locs, hx _ hT hW.alike, hcell9, hv, hcl, hW, hsm.mono hc hs, hf⟩⟩
theorem vx_frame {U : State} {k n : Nat} (h : s.sameButNew ({ U with vm := s.vm } : State) locs k n) : s.heap.size ≤ U.heap.size ∧ ∀ q : Nat, q < s.heap.size → (∀ z ∈ locs, z.base ≠ q) → U.heap[q]? = s.heap[q]? := by
  obtain ⟨-, h2, -, -, -, h6⟩ := h
  refine ⟨h2, fun q hq hz => ?_⟩
  obtain ⟨c9, e1, e2, e3, e4⟩ := h6 q _ (Array.getElem?_eq_getElem hq)
  have hs : c9.slots = (s.heap[q]).slots := Array.ext_getElem? fun i => e4 i fun hm => hz _ hm rfl
  have h9 : c9 = s.heap[q] := by
    rw [hs] at e2
    exact e2
  have e5 : U.heap[q]? = some c9 := e1
  rw [e5, h9, Array.getElem?_eq_getElem hq]
/-- the words of a throw but the four that speak of the heap -/
def vx_no (w : Cond) : Bool := decide (w ≠ .isRef (.static Bundle.tN "UNASSIGNED_STACK" Bundle.steD)) && decide (w ≠ .isRef (.static Bundle.tN "SUPPRESSED_SENTINEL" Bundle.listD)) && decide (w ≠ .laysStatic Bundle.tN "UNASSIGNED_STACK" Bundle.steD) && decide (w ≠ .laysStatic Bundle.tN "SUPPRESSED_SENTINEL" Bundle.listD)
def vx_at0 (own : String) (ic : Nat) (X : String) (names : List String) : List Cond := (Bundle.ownAtoms0 own ic X names).filter vx_no
def vx_atS (own : String) (ic : Nat) (X : String) (names : List String) : List Cond := (Bundle.ownAtoms own ic X names).filter vx_no
/-- a word that the tables alone decide, or a good one -/
def vx_ot (w : Cond) : Bool := w.onTables || goodWord w
theorem vx_ot_at {args a' : Array Value} {s U : State} {w : Cond} (hW : s.WarmedH U.vm) (hvm : s.vm = U.vm) (hg : vx_ot w = true) (h : w.before args s = true) : w.before a' U = true := by
  simp only [vx_ot, Bool.or_eq_true] at hg
  rcases hg with hg | hg
  · exact va_tabs hg hvm h
  · exact word_at hW (good_of_word hg) h
/-- a list's words: the good ones out of the method's own list, the others by premises of their own -/
theorem vx_hat {args : Array Value} {s : State} {L B : List Cond} (h1 : ∀ w ∈ L.filter goodWord, w.before args s = true) (h2 : ∀ w ∈ L.filter (fun w => !goodWord w), w ∈ B) (h3 : ∀ w ∈ B, w.before args s = true) : ∀ w ∈ L, w.before args s = true := by
  intro w hw
  by_cases g : goodWord w = true
  · exact h1 w (List.mem_filter.mpr ⟨hw, g⟩)
  · refine h3 w (h2 w (List.mem_filter.mpr ⟨hw, ?_⟩))
    show (!goodWord w) = true
    cases hgw : goodWord w
    · rfl
    · exact absurd hgw g
theorem vx_c {args : Array Value} {s : State} {w : Cond} {B : List Cond} (h : w.before args s = true) (t : ∀ w ∈ B, w.before args s = true) : ∀ w' ∈ w :: B, w'.before args s = true := fun w' h' => (List.mem_cons.mp h').elim (fun e => by rw [e]; exact h) (t w')
theorem vx_n {args : Array Value} {s : State} : ∀ w ∈ ([] : List Cond), w.before args s = true := fun _ h => nomatch h
theorem vx_own {args : Array Value} {s : State} {L : List Cond} (h1 : ∀ w ∈ L.filter vx_no, w.before args s = true)
    (hU : (Cond.isRef (.static Bundle.tN "UNASSIGNED_STACK" Bundle.steD)).before args s = true) (hN : (Cond.isRef (.static Bundle.tN "SUPPRESSED_SENTINEL" Bundle.listD)).before args s = true)
    (lU : (Cond.laysStatic Bundle.tN "UNASSIGNED_STACK" Bundle.steD).before args s = true) (lN : (Cond.laysStatic Bundle.tN "SUPPRESSED_SENTINEL" Bundle.listD).before args s = true) : ∀ w ∈ L, w.before args s = true := by
  intro w hw
  by_cases e1 : w = .isRef (.static Bundle.tN "UNASSIGNED_STACK" Bundle.steD)
  · rw [e1]; exact hU
  · by_cases e2 : w = .isRef (.static Bundle.tN "SUPPRESSED_SENTINEL" Bundle.listD)
    · rw [e2]; exact hN
    · by_cases e3 : w = .laysStatic Bundle.tN "UNASSIGNED_STACK" Bundle.steD
      · rw [e3]; exact lU
      · by_cases e4 : w = .laysStatic Bundle.tN "SUPPRESSED_SENTINEL" Bundle.listD
        · rw [e4]; exact lN
        · exact h1 w (List.mem_filter.mpr ⟨hw, by unfold vx_no; rw [decide_eq_true e1, decide_eq_true e2, decide_eq_true e3, decide_eq_true e4]; rfl⟩)
/-- where a static field lies, its class's statics cell in H -/
def vx_L (C n d : String) (A : Nat → Prop) (U : State) (H : Heap) : Prop := ∃ (c : ClassId) (k : Class) (i : Nat) (f : Field) (a : Nat) (cell : Cell), U.vm.findClass C = some c ∧ U.fieldFound? C n d = some (c, k, i, f) ∧ f.isStatic = true ∧ k.statics = some a ∧ H[a]? = some cell ∧ cell.vm.isStatics = true ∧ cell.cls = c ∧ f.slot < cell.slots.size ∧ k.staticTypes[f.slot]? = some f.type ∧ ¬ A a
theorem vx_L.moved {C n d : String} {A : Nat → Prop} {u U : State} {H : Heap} (hvm : u.vm.Alike U.vm) (h : vx_L C n d A u H) : vx_L C n d A U H := by
  obtain ⟨c, k, i, f, a, cell, h1, h2, h3, h4, h5, h6, h7, h8, h9, h10⟩ := h
  obtain ⟨k', hi', he⟩ := State.fieldFound?_setVm hvm h2
  exact ⟨c, k', i, f, a, cell, by rw [hvm.findClass]; exact h1, hi', h3, by rw [he]; exact h4, h5, h6, h7, h8, by rw [he]; exact h9, h10⟩
theorem vx_L.kept {C n d : String} {A : Nat → Prop} {U : State} {H H1 : Heap} (h : vx_L C n d A U H) (hq : ∀ a : Nat, a < H.size → ¬ A a → H1[a]? = H[a]?) : vx_L C n d A U H1 := by
  obtain ⟨c, k, i, f, a, cell, h1, h2, h3, h4, h5, h6, h7, h8, h9, h10⟩ := h
  exact ⟨c, k, i, f, a, cell, h1, h2, h3, h4, by rw [hq a (Array.getElem?_eq_some_iff.mp h5).1 h10]; exact h5, h6, h7, h8, h9, h10⟩
theorem vx_L.narrow {C n d : String} {A B : Nat → Prop} {U : State} {H : Heap} (h : vx_L C n d A U H) (hAB : ∀ q, B q → A q) : vx_L C n d B U H := by
  obtain ⟨c, k, i, f, a, cell, h1, h2, h3, h4, h5, h6, h7, h8, h9, h10⟩ := h
  exact ⟨c, k, i, f, a, cell, h1, h2, h3, h4, h5, h6, h7, h8, h9, fun z => h10 (hAB _ z)⟩
theorem vx_L.word {C n d : String} {A : Nat → Prop} {s : State} {args : Array Value} (h : vx_L C n d A s s.heap) : (Cond.laysStatic C n d).before args s = true := by
  obtain ⟨c, k, i, f, a, cell, h1, h2, h3, h4, h5, h6, h7, h8, h9, -⟩ := h
  show (Cond.laysStatic C n d).holds args s none s [] = true
  exact Cond.laysStatic_of h1 h2 h3 h4 h5 h6 h7 h8 h9
/-- .. and what it holds: null or some reference -/
def vx_Zq (C n d : String) (A : Nat → Prop) (U : State) (H : Heap) : Prop := va_Zq C n d A U H ∧ vx_L C n d A U H
theorem vx_Zq.moved {C n d : String} {A : Nat → Prop} {u U : State} {H : Heap} (hvm : u.vm.Alike U.vm) (h : vx_Zq C n d A u H) : vx_Zq C n d A U H := ⟨va_Zq.moved hvm h.1, vx_L.moved hvm h.2⟩
theorem vx_Zq.kept {C n d : String} {A : Nat → Prop} {U : State} {H H1 : Heap} (h : vx_Zq C n d A U H) (hq : ∀ a : Nat, a < H.size → ¬ A a → H1[a]? = H[a]?) : vx_Zq C n d A U H1 := ⟨va_Zq.kept h.1 hq, vx_L.kept h.2 hq⟩
theorem vx_Zq.narrow {C n d : String} {A B : Nat → Prop} {U : State} {H : Heap} (h : vx_Zq C n d A U H) (hAB : ∀ q, B q → A q) : vx_Zq C n d B U H := ⟨va_Zq.narrow h.1 hAB, vx_L.narrow h.2 hAB⟩
theorem vx_Zqof {args : Array Value} {s : State} {C n d : String} {A : Nat → Prop} (hl : (Cond.laysStatic C n d).before args s = true) (hini : (Cond.initialized C).before args s = true) (h : (Cond.isRef (.static C n d)).before args s = true) (hA : ∀ a : Nat, a < s.heap.size → ¬ A a) : vx_Zq C n d A s s.heap := by
  refine ⟨va_Zqof hl hini h hA, ?_⟩
  obtain ⟨c, k, i, f, a, cell, h1, h2, h3, h4, h5, h6, h7, h8, h9⟩ := Cond.laysStatic_spec hl
  exact ⟨c, k, i, f, a, cell, h1, h2, h3, h4, h5, h6, h7, h8, h9, hA a (Array.getElem?_eq_some_iff.mp h5).1⟩
theorem vx_isRef {C n d : String} {v : Value} {A : Nat → Prop} {s : State} {args : Array Value} (h : va_Z C n d v A s s.heap) (hv : v.isRef = true) : (Cond.isRef (.static C n d)).before args s = true := by
  obtain ⟨cf, kf, fi, f, a, cell, h1, h2, h3, h4, h5, h6, h7, -⟩ := h
  have he : (Term.static C n d).eval args s none [] s = some v := by
    simp [Term.eval, State.fieldNamed?, h1, h2, h4, h5, h6, h7]
  simp only [Cond.before, Cond.holds, Cond.value, he]
  cases v <;> simp_all [Value.isRef]
theorem vx_isRefq {C n d : String} {A : Nat → Prop} {s : State} {args : Array Value} (h : va_Zq C n d A s s.heap) : (Cond.isRef (.static C n d)).before args s = true := by
  rcases h with h | ⟨t, h⟩
  · exact vx_isRef h rfl
  · exact vx_isRef h rfl
/-- the same frame, seen from here: as if the method were called anew in this heap -/
theorem vx_rebase {T : State} (X : Stand p l e R s m args below meth c T locs cells slots) {R' : Room} (hf : R'.frames ≤ R.frames) (hl : R'.locals ≤ R.locals) (hc : cells + R'.cells ≤ R.cells) (hs : slots + R'.slots ≤ R.slots) :
    Stand p l e R' ((T.setVm s.vm).setFrames (.invoking m args :: below)) m args below meth c T [] 0 0 := by
  have htop : (T.setVm s.vm).topJava?.isSome := X.here.top
  have hF : ((T.setVm s.vm).setFrames (.invoking m args :: below)).frames = .invoking m args :: below := State.frames_setFrames _ (State.cur_lt_of_top htop)
  obtain ⟨g₀, hg0⟩ := Option.isSome_iff_exists.mp htop
  obtain ⟨r, hr⟩ := State.topJava?_eq_some.mp hg0
  have hl9 : e.platform.stackLimits (T.setVm s.vm).me = e.platform.stackLimits s.me := X.limits
  have hb9 : (T.setVm s.vm).me.stackBytes = s.me.stackBytes := X.bytes
  refine ⟨X.admits, X.cas, X.clock, hF, ?_, X.hears, X.method, X.code, X.here, X.tail, X.warmed, ?_, ?_, ?_⟩
  · have h := X.room
    have hU : ((T.setVm s.vm).setFrames (.invoking m args :: below)).localsInUse = s.localsInUse := by
      rw [State.localsInUse_invoking hF (meth := meth) (c := c) X.method X.code, State.localsInUse_invoking X.frames X.method X.code]
    simp only [State.hasRoom, Bool.and_eq_true, decide_eq_true_eq] at h ⊢
    obtain ⟨⟨⟨⟨h1, h2, h3, h4, h5, h6⟩, h7⟩, h8⟩, h9⟩ := h
    rw [X.frames, List.length_cons] at h2 h3
    have q1 := X.heapSize
    have q2 := X.used
    simp only [hF, hU, List.length_cons, State.stackLimits_setFrames, State.stackBytes_setFrames, hl9, hb9]
    refine ⟨⟨⟨⟨by omega, by omega, by omega, by omega, by omega, h6⟩, ?_⟩, ?_⟩, X.book⟩
    · show T.heap.size + R'.cells ≤ e.platform.maxCells
      omega
    · show T.slotsUsed + R'.slots ≤ e.platform.maxSlots
      omega
  · rw [State.stackLimits_setFrames]; rfl
  · rw [State.stackBytes_setFrames]; rfl
  · refine ⟨?_, Nat.le_refl _, Nat.le_refl _, ?_, ?_, fun a c9 h9 => ⟨c9, h9, rfl, rfl, fun _ _ => rfl⟩⟩
    · obtain ⟨t, ht, -⟩ := State.frames_cons hr
      show T.setVm s.vm = { ((T.setVm s.vm).setFrames (.invoking m args :: below)).setFrames (T.setVm s.vm).frames with heap := T.heap, slotsUsed := T.slotsUsed }
      rw [State.setFrames_setFrames, State.setFrames_self ht]
      rfl
    · show T.slotsUsed = T.slotsUsed + ((T.heap.toList.drop T.heap.size).map (·.slots.size)).sum
      rw [List.drop_eq_nil_of_le (Nat.le_of_eq Array.length_toList)]
      rfl
    · show ((T.heap.toList.drop T.heap.size).map (·.slots.size)).sum ≤ 0
      rw [List.drop_eq_nil_of_le (Nat.le_of_eq Array.length_toList)]
      exact Nat.le_refl _
/-- 'throw new E()': new; dup; invokespecial; athrow -/
theorem vx_throw0 {cc : ByteArray} {pc : Nat} (hexec : p.tables.exec = Jvm.exec) (hb : c.code = cc) (hl : l.stackTraces = false) {own cls : String} {names : List String} {ik ic mc ms : Nat} {A : Nat → Prop}
    (hown : s.vm.findClass own = some m.cls) (hcls : Bundle.fit cls = true) (hnames : ∀ n ∈ names, Bundle.fit n = true)
    (hk : (Cond.classLink own ik cls).before args s = true) (hini : (Cond.initialized cls).before args s = true) (hat : ∀ w ∈ vx_at0 own ic cls names, w.before args s = true)
    (hgood : ∀ w ∈ Cond.classLink own ik cls :: Cond.initialized cls :: vx_at0 own ic cls names, vx_ot w = true)
    (hU : vx_Zq Bundle.tN "UNASSIGNED_STACK" Bundle.steD A s s.heap) (hN : vx_Zq Bundle.tN "SUPPRESSED_SENTINEL" Bundle.listD A s s.heap) (hS : va_S A s.heap H locs) (hsize : ls.size = c.maxLocals)
    (d0 : decode cc pc = .ok (.new ik, 3)) (d3 : decode cc (pc + 3) = .ok (.dup, 1)) (d4 : decode cc (pc + 4) = .ok (.invokespecial ic, 3)) (d7 : decode cc (pc + 7) = .ok (.athrow, 1))
    (hout : ∀ x ∈ c.exceptionTable.toList, covers x (pc + 7) = false)
    (hRframes : names.length + 3 < R.frames) (hRlocals : (rest.map fun v => v.category).sum + (13 * (names.length + 1) + 42) ≤ R.locals) (hRcells : cells + 1 ≤ R.cells) (hRslots : slots + 6 ≤ R.slots) (hlocks : meth.locks = false)
    (hx : ∀ t : State, s.vm.Alike t.vm → H.size ≤ t.heap.size → (∀ q : Nat, q < H.size → t.heap[q]? = H[q]?) → XC cls s t)
    (hf : ∀ z ∈ locs, free z.base) (hc : cells + 1 ≤ mc) (hs : slots + 6 ≤ ms) :
    W p l e R s m args below meth c H locs cells slots (vx_MQ below Qc XC args s mc ms free) (F0 m pc ls rest) := by
  intro T hT X
  have htr : e.platform.stackTraces = false := (show e.platform.stackTraces = l.stackTraces by rw [X.admits.platform]).trans hl
  have Y := vx_rebase X (R' := { frames := R.frames, locals := R.locals, cells := 1, slots := 6 }) (Nat.le_refl _) (Nat.le_refl _) hRcells hRslots
  obtain ⟨s', hA⟩ : ∃ z, z = (T.setVm s.vm).setFrames (.invoking m args :: below) := ⟨_, rfl⟩
  rw [← hA] at Y
  have hvm : s'.vm = s.vm := by rw [hA]; rfl
  have hhp : s'.heap = H := by rw [hA]; exact hT
  have hW0 : s.WarmedH s'.vm := by rw [hvm]; exact State.WarmedH.refl s
  have hat' : ∀ w ∈ vx_at0 own ic cls names, w.before args s' = true := fun w hw => vx_ot_at hW0 hvm.symm (hgood w (List.mem_cons_of_mem _ (List.mem_cons_of_mem _ hw))) (hat w hw)
  have hk' : (Cond.classLink own ik cls).before args s' = true := vx_ot_at hW0 hvm.symm (hgood _ List.mem_cons_self) hk
  have hini' : (Cond.initialized cls).before args s' = true := vx_ot_at hW0 hvm.symm (hgood _ (List.mem_cons_of_mem _ List.mem_cons_self)) hini
  have hU' : vx_Zq Bundle.tN "UNASSIGNED_STACK" Bundle.steD A s' s'.heap := by rw [hhp]; exact vx_Zq.moved hW0.alike (hU.kept hS.2.1)
  have hN' : vx_Zq Bundle.tN "SUPPRESSED_SENTINEL" Bundle.listD A s' s'.heap := by rw [hhp]; exact vx_Zq.moved hW0.alike (hN.kept hS.2.1)
  have h : ∀ w ∈ Bundle.ownAtoms0 own ic cls names, w.before args s' = true := vx_own hat' (vx_isRefq hU'.1) (vx_isRefq hN'.1) hU'.2.word hN'.2.word
  have hown' : s'.vm.findClass own = some m.cls := by rw [hvm]; exact hown
  have hins : (Cond.instantiable cls 6).before args s' = true := h _ (by simp [Bundle.ownAtoms0])
  obtain ⟨vm₁, cX, kX, hfX, hkX, -, -, X₁, st1⟩ := Y.newCold hexec (own := own) (C := cls) (index := ik) (n := 6) hown' hk' hins hini'
    (g := F0 m pc ls rest) rfl (by rw [hb]; exact d0) (Nat.le_refl _) (Nat.le_refl _)
  generalize hT1 : (T.setVm vm₁).pushCell { cls := cX, slots := kX.instanceTypes.map defaultValue, vm := .none } = T1 at X₁ st1
  have hcat : (Value.ref T.heap.size).category = 1 := rfl
  have hcellA : T1.heap[T.heap.size]? = some (freshCell cX kX) := by rw [← hT1]; exact State.heap_pushCell_size _ _
  have d3' : decode c.code (pc + 3) = .ok (.dup, 1) := by rw [hb]; exact d3
  obtain ⟨U, hsteps, hrun, hend, hW, hsame, ce, hce, hO⟩ := X₁.ctorThrow0 hexec htr (own := own) (cls := cls) (names := names) (ic := ic) hown' hcls hnames h (fun x hx => nomatch hx) hfX hkX hcellA (by rw [hhp, hT]; exact Nat.le_refl _)
    (g := { method := m, pc := pc + 4, locals := ls, stack := .ref T.heap.size :: .ref T.heap.size :: rest, locked := none }) rfl hsize rfl rfl (rest := rest) rfl
    (by rw [hb]; exact d4) (by rw [hb]; exact d7) hout hRframes (by simp only [List.map_cons, List.sum_cons, hcat]; omega) hlocks
  obtain ⟨f1, f2⟩ := vx_frame hsame
  rw [hhp] at f1 f2
  have hWs : s.WarmedH U.vm := State.WarmedH.trans hW0 hW
  have hcl : s.vm.findClass cls = some ce.cls := by
    have h9 := hO.cls
    rw [hvm] at h9
    exact h9
  have hall : s.sameButNew ({ U with vm := s.vm } : State) locs mc ms := by
    subst hA
    obtain ⟨e1, e2⟩ := hsame
    rw [State.setFrames_setFrames] at e1
    have h2 : (T.setVm s.vm).sameButNew ({ U with vm := s.vm } : State) [] (0 + 1) (0 + 6) := ⟨e1, e2⟩
    have h3 := X.same.trans h2
    rw [List.append_nil] at h3
    exact h3.mono hc hs
  refine ⟨U, ?_, .threw T.heap.size, hrun, hend, Or.inr ⟨T.heap.size, rfl, cls, ce, locs, hx U hWs.alike f1 (fun q hq => f2 q hq (fun z hz => nomatch hz)), hce, hO.vm, hcl, hWs, hall, hf⟩⟩
  refine st1 _ ?_
  show Steps p.tables e below (T1.setTop { method := m, pc := pc + 3, locals := ls, stack := .ref T.heap.size :: rest, locked := none }) _
  jvm_step X₁.here [X₁.here.top, hexec, d3', Value.category]
  exact hsteps
/-- 'throw new E("text")': new; dup; ldc; invokespecial; athrow -/
theorem vx_throwS {cc : ByteArray} {pc : Nat} (hexec : p.tables.exec = Jvm.exec) (hb : c.code = cc) (hl : l.stackTraces = false) {own cls text : String} {names : List String} {ik is ic mc ms sa : Nat} {A : Nat → Prop}
    (hown : s.vm.findClass own = some m.cls) (hcls : Bundle.fit cls = true) (hnames : ∀ n ∈ names, Bundle.fit n = true)
    (hk : (Cond.classLink own ik cls).before args s = true) (hini : (Cond.initialized cls).before args s = true) (hstr : vk_R own is text sa s) (hat : ∀ w ∈ vx_atS own ic cls names, w.before args s = true)
    (hgood : ∀ w ∈ Cond.classLink own ik cls :: Cond.initialized cls :: vx_atS own ic cls names, vx_ot w = true)
    (hU : vx_Zq Bundle.tN "UNASSIGNED_STACK" Bundle.steD A s s.heap) (hN : vx_Zq Bundle.tN "SUPPRESSED_SENTINEL" Bundle.listD A s s.heap) (hS : va_S A s.heap H locs) (hsize : ls.size = c.maxLocals)
    (d0 : decode cc pc = .ok (.new ik, 3)) (d3 : decode cc (pc + 3) = .ok (.dup, 1)) (d4 : decode cc (pc + 4) = .ok (.ldc is, 2)) (d6 : decode cc (pc + 6) = .ok (.invokespecial ic, 3)) (d9 : decode cc (pc + 9) = .ok (.athrow, 1))
    (hout : ∀ x ∈ c.exceptionTable.toList, covers x (pc + 9) = false)
    (hRframes : names.length + 3 < R.frames) (hRlocals : (rest.map fun v => v.category).sum + (13 * (names.length + 1) + 43) ≤ R.locals) (hRcells : cells + 1 ≤ R.cells) (hRslots : slots + 6 ≤ R.slots) (hlocks : meth.locks = false)
    (hx : ∀ t : State, s.vm.Alike t.vm → H.size ≤ t.heap.size → (∀ q : Nat, q < H.size → t.heap[q]? = H[q]?) → XC cls s t)
    (hf : ∀ z ∈ locs, free z.base) (hc : cells + 1 ≤ mc) (hs : slots + 6 ≤ ms) :
    W p l e R s m args below meth c H locs cells slots (vx_MQ below Qc XC args s mc ms free) (F0 m pc ls rest) := by
  intro T hT X
  have htr : e.platform.stackTraces = false := (show e.platform.stackTraces = l.stackTraces by rw [X.admits.platform]).trans hl
  have Y := vx_rebase X (R' := { frames := R.frames, locals := R.locals, cells := 1, slots := 6 }) (Nat.le_refl _) (Nat.le_refl _) hRcells hRslots
  obtain ⟨s', hA⟩ : ∃ z, z = (T.setVm s.vm).setFrames (.invoking m args :: below) := ⟨_, rfl⟩
  rw [← hA] at Y
  have hvm : s'.vm = s.vm := by rw [hA]; rfl
  have hhp : s'.heap = H := by rw [hA]; exact hT
  have hW0 : s.WarmedH s'.vm := by rw [hvm]; exact State.WarmedH.refl s
  have hat' : ∀ w ∈ vx_atS own ic cls names, w.before args s' = true := fun w hw => vx_ot_at hW0 hvm.symm (hgood w (List.mem_cons_of_mem _ (List.mem_cons_of_mem _ hw))) (hat w hw)
  have hk' : (Cond.classLink own ik cls).before args s' = true := vx_ot_at hW0 hvm.symm (hgood _ List.mem_cons_self) hk
  have hini' : (Cond.initialized cls).before args s' = true := vx_ot_at hW0 hvm.symm (hgood _ (List.mem_cons_of_mem _ List.mem_cons_self)) hini
  have hU' : vx_Zq Bundle.tN "UNASSIGNED_STACK" Bundle.steD A s' s'.heap := by rw [hhp]; exact vx_Zq.moved hW0.alike (hU.kept hS.2.1)
  have hN' : vx_Zq Bundle.tN "SUPPRESSED_SENTINEL" Bundle.listD A s' s'.heap := by rw [hhp]; exact vx_Zq.moved hW0.alike (hN.kept hS.2.1)
  have h : ∀ w ∈ Bundle.ownAtoms own ic cls names, w.before args s' = true := vx_own hat' (vx_isRefq hU'.1) (vx_isRefq hN'.1) hU'.2.word hN'.2.word
  have hown' : s'.vm.findClass own = some m.cls := by rw [hvm]; exact hown
  have hins : (Cond.instantiable cls 6).before args s' = true := h _ (by simp [Bundle.ownAtoms])
  obtain ⟨vm₁, cX, kX, hfX, hkX, -, -, X₁, st1⟩ := Y.newCold hexec (own := own) (C := cls) (index := ik) (n := 6) hown' hk' hins hini'
    (g := F0 m pc ls rest) rfl (by rw [hb]; exact d0) (Nat.le_refl _) (Nat.le_refl _)
  generalize hT1 : (T.setVm vm₁).pushCell { cls := cX, slots := kX.instanceTypes.map defaultValue, vm := .none } = T1 at X₁ st1
  have hcat : (Value.ref T.heap.size).category = 1 := rfl
  have hcellA : T1.heap[T.heap.size]? = some (freshCell cX kX) := by rw [← hT1]; exact State.heap_pushCell_size _ _
  have d3' : decode c.code (pc + 3) = .ok (.dup, 1) := by rw [hb]; exact d3
  have d4' : decode c.code (pc + 4) = .ok (.ldc is, 2) := by rw [hb]; exact d4
  have hstr' : vk_R own is text sa s' := vk_R.warm hW0 hstr
  obtain ⟨U, hsteps, hrun, hend, hW, hsame, ce, hce, hO⟩ := X₁.ctorThrowS hexec htr (own := own) (cls := cls) (names := names) (ic := ic) hown' hcls hnames h (fun x hx => nomatch hx) hfX hkX hcellA (by rw [hhp, hT]; exact Nat.le_refl _) (msg := .ref sa) rfl
    (g := { method := m, pc := pc + 6, locals := ls, stack := .ref sa :: .ref T.heap.size :: .ref T.heap.size :: rest, locked := none }) rfl hsize rfl rfl (rest := rest) rfl
    (by rw [hb]; exact d6) (by rw [hb]; exact d9) hout hRframes (by simp only [List.map_cons, List.sum_cons, hcat]; omega) hlocks
  obtain ⟨f1, f2⟩ := vx_frame hsame
  rw [hhp] at f1 f2
  have hWs : s.WarmedH U.vm := State.WarmedH.trans hW0 hW
  have hcl : s.vm.findClass cls = some ce.cls := by
    have h9 := hO.cls
    rw [hvm] at h9
    exact h9
  have hall : s.sameButNew ({ U with vm := s.vm } : State) locs mc ms := by
    subst hA
    obtain ⟨e1, e2⟩ := hsame
    rw [State.setFrames_setFrames] at e1
    have h2 : (T.setVm s.vm).sameButNew ({ U with vm := s.vm } : State) [] (0 + 1) (0 + 6) := ⟨e1, e2⟩
    have h3 := X.same.trans h2
    rw [List.append_nil] at h3
    exact h3.mono hc hs
  refine ⟨U, ?_, .threw T.heap.size, hrun, hend, Or.inr ⟨T.heap.size, rfl, cls, ce, locs, hx U hWs.alike f1 (fun q hq => f2 q hq (fun z hz => nomatch hz)), hce, hO.vm, hcl, hWs, hall, hf⟩⟩
  refine st1 _ ?_
  show Steps p.tables e below (T1.setTop { method := m, pc := pc + 3, locals := ls, stack := .ref T.heap.size :: rest, locked := none }) _
  jvm_step X₁.here [X₁.here.top, hexec, d3', Value.category]
  exact X₁.ldcString hexec (own := own) (text := text) (index := is) (a := sa) hown' hstr'.1 hstr'.2
    (g := { method := m, pc := pc + 4, locals := ls, stack := .ref T.heap.size :: .ref T.heap.size :: rest, locked := none }) rfl d4' _ hsteps
/-- 'throw new E("text")', the text by a wide index -/
theorem vx_throwSW {cc : ByteArray} {pc : Nat} (hexec : p.tables.exec = Jvm.exec) (hb : c.code = cc) (hl : l.stackTraces = false) {own cls text : String} {names : List String} {ik is ic mc ms sa : Nat} {A : Nat → Prop}
    (hown : s.vm.findClass own = some m.cls) (hcls : Bundle.fit cls = true) (hnames : ∀ n ∈ names, Bundle.fit n = true)
    (hk : (Cond.classLink own ik cls).before args s = true) (hini : (Cond.initialized cls).before args s = true) (hstr : vk_R own is text sa s) (hat : ∀ w ∈ vx_atS own ic cls names, w.before args s = true)
    (hgood : ∀ w ∈ Cond.classLink own ik cls :: Cond.initialized cls :: vx_atS own ic cls names, vx_ot w = true)
    (hU : vx_Zq Bundle.tN "UNASSIGNED_STACK" Bundle.steD A s s.heap) (hN : vx_Zq Bundle.tN "SUPPRESSED_SENTINEL" Bundle.listD A s s.heap) (hS : va_S A s.heap H locs) (hsize : ls.size = c.maxLocals)
    (d0 : decode cc pc = .ok (.new ik, 3)) (d3 : decode cc (pc + 3) = .ok (.dup, 1)) (d4 : decode cc (pc + 4) = .ok (.ldc_w is, 3)) (d7 : decode cc (pc + 7) = .ok (.invokespecial ic, 3)) (d10 : decode cc (pc + 10) = .ok (.athrow, 1))
    (hout : ∀ x ∈ c.exceptionTable.toList, covers x (pc + 10) = false)
    (hRframes : names.length + 3 < R.frames) (hRlocals : (rest.map fun v => v.category).sum + (13 * (names.length + 1) + 43) ≤ R.locals) (hRcells : cells + 1 ≤ R.cells) (hRslots : slots + 6 ≤ R.slots) (hlocks : meth.locks = false)
    (hx : ∀ t : State, s.vm.Alike t.vm → H.size ≤ t.heap.size → (∀ q : Nat, q < H.size → t.heap[q]? = H[q]?) → XC cls s t)
    (hf : ∀ z ∈ locs, free z.base) (hc : cells + 1 ≤ mc) (hs : slots + 6 ≤ ms) :
    W p l e R s m args below meth c H locs cells slots (vx_MQ below Qc XC args s mc ms free) (F0 m pc ls rest) := by
  intro T hT X
  have htr : e.platform.stackTraces = false := (show e.platform.stackTraces = l.stackTraces by rw [X.admits.platform]).trans hl
  have Y := vx_rebase X (R' := { frames := R.frames, locals := R.locals, cells := 1, slots := 6 }) (Nat.le_refl _) (Nat.le_refl _) hRcells hRslots
  obtain ⟨s', hA⟩ : ∃ z, z = (T.setVm s.vm).setFrames (.invoking m args :: below) := ⟨_, rfl⟩
  rw [← hA] at Y
  have hvm : s'.vm = s.vm := by rw [hA]; rfl
  have hhp : s'.heap = H := by rw [hA]; exact hT
  have hW0 : s.WarmedH s'.vm := by rw [hvm]; exact State.WarmedH.refl s
  have hat' : ∀ w ∈ vx_atS own ic cls names, w.before args s' = true := fun w hw => vx_ot_at hW0 hvm.symm (hgood w (List.mem_cons_of_mem _ (List.mem_cons_of_mem _ hw))) (hat w hw)
  have hk' : (Cond.classLink own ik cls).before args s' = true := vx_ot_at hW0 hvm.symm (hgood _ List.mem_cons_self) hk
  have hini' : (Cond.initialized cls).before args s' = true := vx_ot_at hW0 hvm.symm (hgood _ (List.mem_cons_of_mem _ List.mem_cons_self)) hini
  have hU' : vx_Zq Bundle.tN "UNASSIGNED_STACK" Bundle.steD A s' s'.heap := by rw [hhp]; exact vx_Zq.moved hW0.alike (hU.kept hS.2.1)
  have hN' : vx_Zq Bundle.tN "SUPPRESSED_SENTINEL" Bundle.listD A s' s'.heap := by rw [hhp]; exact vx_Zq.moved hW0.alike (hN.kept hS.2.1)
  have h : ∀ w ∈ Bundle.ownAtoms own ic cls names, w.before args s' = true := vx_own hat' (vx_isRefq hU'.1) (vx_isRefq hN'.1) hU'.2.word hN'.2.word
  have hown' : s'.vm.findClass own = some m.cls := by rw [hvm]; exact hown
  have hins : (Cond.instantiable cls 6).before args s' = true := h _ (by simp [Bundle.ownAtoms])
  obtain ⟨vm₁, cX, kX, hfX, hkX, -, -, X₁, st1⟩ := Y.newCold hexec (own := own) (C := cls) (index := ik) (n := 6) hown' hk' hins hini'
    (g := F0 m pc ls rest) rfl (by rw [hb]; exact d0) (Nat.le_refl _) (Nat.le_refl _)
  generalize hT1 : (T.setVm vm₁).pushCell { cls := cX, slots := kX.instanceTypes.map defaultValue, vm := .none } = T1 at X₁ st1
  have hcat : (Value.ref T.heap.size).category = 1 := rfl
  have hcellA : T1.heap[T.heap.size]? = some (freshCell cX kX) := by rw [← hT1]; exact State.heap_pushCell_size _ _
  have d3' : decode c.code (pc + 3) = .ok (.dup, 1) := by rw [hb]; exact d3
  have d4' : decode c.code (pc + 4) = .ok (.ldc_w is, 3) := by rw [hb]; exact d4
  have hstr' : vk_R own is text sa s' := vk_R.warm hW0 hstr
  obtain ⟨U, hsteps, hrun, hend, hW, hsame, ce, hce, hO⟩ := X₁.ctorThrowS hexec htr (own := own) (cls := cls) (names := names) (ic := ic) hown' hcls hnames h (fun x hx => nomatch hx) hfX hkX hcellA (by rw [hhp, hT]; exact Nat.le_refl _) (msg := .ref sa) rfl
    (g := { method := m, pc := pc + 7, locals := ls, stack := .ref sa :: .ref T.heap.size :: .ref T.heap.size :: rest, locked := none }) rfl hsize rfl rfl (rest := rest) rfl
    (by rw [hb]; exact d7) (by rw [hb]; exact d10) hout hRframes (by simp only [List.map_cons, List.sum_cons, hcat]; omega) hlocks
  obtain ⟨f1, f2⟩ := vx_frame hsame
  rw [hhp] at f1 f2
  have hWs : s.WarmedH U.vm := State.WarmedH.trans hW0 hW
  have hcl : s.vm.findClass cls = some ce.cls := by
    have h9 := hO.cls
    rw [hvm] at h9
    exact h9
  have hall : s.sameButNew ({ U with vm := s.vm } : State) locs mc ms := by
    subst hA
    obtain ⟨e1, e2⟩ := hsame
    rw [State.setFrames_setFrames] at e1
    have h2 : (T.setVm s.vm).sameButNew ({ U with vm := s.vm } : State) [] (0 + 1) (0 + 6) := ⟨e1, e2⟩
    have h3 := X.same.trans h2
    rw [List.append_nil] at h3
    exact h3.mono hc hs
  refine ⟨U, ?_, .threw T.heap.size, hrun, hend, Or.inr ⟨T.heap.size, rfl, cls, ce, locs, hx U hWs.alike f1 (fun q hq => f2 q hq (fun z hz => nomatch hz)), hce, hO.vm, hcl, hWs, hall, hf⟩⟩
  refine st1 _ ?_
  show Steps p.tables e below (T1.setTop { method := m, pc := pc + 3, locals := ls, stack := .ref T.heap.size :: rest, locked := none }) _
  jvm_step X₁.here [X₁.here.top, hexec, d3', Value.category]
  exact X₁.ldcStringW hexec (own := own) (text := text) (index := is) (a := sa) hown' hstr'.1 hstr'.2
    (g := { method := m, pc := pc + 4, locals := ls, stack := .ref T.heap.size :: .ref T.heap.size :: rest, locked := none }) rfl d4' _ hsteps
end Ends
section Bodies
variable {l : Launch}
theorem vx_ofW {y : MethodName} {ws ws' : List Cond} {rm : Room} {Pc : Array Value → State → Prop} {Qc : Array Value → State → Outcome → State → Prop} {XC : String → State → State → Prop} {mc ms : Nat} {free : Addr → Prop} {cc : ByteArray} {maxL : Nat} {ret : Option FieldType}
    (hy : plainName y.cls = true) (hw : ws = Cond.code y cc maxL ret :: ws')
    (body : ∀ p e s m args below meth c s₁, BodyLoose p l y (headSpec ws rm) cc maxL ret e s m args below meth c s₁ → c.maxLocals = maxL → (∀ x ∈ c.exceptionTable.toList, False) → Pc args s →
      W p l e (headSpec ws rm).room s m args below meth c s.heap [] 0 0 (vx_MQ below Qc XC args s mc ms free) (entryFrame m args maxL)) : vx_Met l y ws rm Pc Qc XC mc ms free := by
  refine MetFree.of_bodyS (code := cc) (maxLocals := maxL) (ret := ret) hy ?_ ?_
  · intro args s m h hn
    obtain ⟨meth, c, h1, h2, h3, h4, h5, h6, -, -⟩ := Cond.code_spec hn (atoms_spec (ws := ws) h _ (by rw [hw]; exact List.mem_cons_self))
    exact ⟨meth, c, h1, h2, h3, h4, h5, h6⟩
  · intro p e s m args below meth c s₁ B hml hP _
    have hh0 : s₁.heap = s.heap := by rw [B.state]; rfl
    have ht : ∀ x ∈ c.exceptionTable.toList, False := by
      obtain ⟨meth9, c9, h1, h2, -, -, -, -, h7, -⟩ := Cond.code_spec B.named (atoms_spec (ws := ws) B.pre _ (by rw [hw]; exact List.mem_cons_self))
      cases Option.some.inj (h1.symm.trans B.method)
      cases Option.some.inj (h2.symm.trans (Stand.of_body B).code)
      intro x hx
      rw [Array.isEmpty_iff.mp h7] at hx
      cases hx
    obtain ⟨t, a1, o, b1, b2, b3⟩ := body p e s m args below meth c s₁ B hml ht hP s₁ hh0 (Stand.of_body B)
    exact ⟨t, o, a1, b1, b2, b3⟩
/-- the table of a body with handlers -/
theorem vx_table {p : Program} {x y : MethodName} {S : Spec} {cc bytes : ByteArray} {maxL maxL' : Nat} {ret ret' : Option FieldType} {e : Env} {s s₁ : State} {m : MethodId} {args : Array Value} {below : List Frame} {meth : Method} {c : Code} {hh : List (Nat × Nat × Nat × Nat)}
    (B : BodyLoose p l y S cc maxL ret e s m args below meth c s₁) (h : (Cond.codeWith y bytes maxL' ret' hh).before args s = true) : c.exceptionTable.toList = tableOf hh := by
  obtain ⟨m9, meth9, c9, hn9, h1, h2, -, -, h6, -⟩ := Cond.codeWith_spec h
  cases Option.some.inj (hn9.symm.trans B.named)
  cases Option.some.inj (h1.symm.trans B.method)
  cases Option.some.inj (h2.symm.trans (Stand.of_body B).code)
  rw [← h6, table_eq]
end Bodies
end VXA
/-! ===== END ===== -/
/-! ===== BEGIN a static call of a method with an exception table ===== -/
section VXS
variable {p : Program} {l : Launch} {e : Env} {R : Room} {s : State} {m : MethodId} {args : Array Value} {below : List Frame} {meth : Method} {c : Code} {T : State} {H : Heap} {locs : List Loc} {cells slots : Nat}
abbrev vx_CSW (R : Room) (s : State) (args : Array Value) (own : String) (index : Nat) (y : MethodName) (bytes : ByteArray) (maxL : Nat) (ret : Option FieldType) (hh : List (Nat × Nat × Nat × Nat)) (ws : List Cond) (rm : Room) (mc ms n : Nat) : Prop :=
  (rm.cells = mc ∧ rm.slots = ms ∧ rm.frames + 1 ≤ R.frames ∧ 8 + (maxL + 11) + rm.locals ≤ R.locals ∧ (∀ w ∈ ws, ∀ (a' : Array Value) (U : State), s.WarmedH U.vm → w.before a' U = true) ∧ Cond.codeWith y bytes maxL ret hh ∈ ws) ∧
  (Cond.codeWith y bytes maxL ret hh).before args s = true ∧ (Cond.initialized y.cls).before args s = true ∧ (y.cls ≠ "java/lang/invoke/MethodHandle" ∧ y.cls ≠ "java/lang/invoke/VarHandle") ∧
  (∀ sig, parseMethodDescriptor y.desc = some sig → n = sig.parameters.length) ∧ (Cond.methodLink own index y).before args s = true ∧ (Cond.static y).before args s = true
theorem vx_cwSW {own : String} {index maxL mc ms : Nat} {y : MethodName} {bytes : ByteArray} {ret : Option FieldType} {hh : List (Nat × Nat × Nat × Nat)} {Ts ws ws' : List Cond} {rm : Room} (n : Nat) (ht : ∀ w ∈ Ts, w.before args s = true) (hT : GoodIn Ts (va_wsS own index y ws)) (hw : ws = Cond.codeWith y bytes maxL ret hh :: ws') (hrc : rm.cells = mc) (hrs : rm.slots = ms)
    (hd : y.cls ≠ "java/lang/invoke/MethodHandle" ∧ y.cls ≠ "java/lang/invoke/VarHandle" ∧ (parseMethodDescriptor y.desc).map (fun d => d.parameters.length) = some n) (hR : rm.frames + 1 ≤ R.frames ∧ 8 + (maxL + 11) + rm.locals ≤ R.locals) :
    vx_CSW R s args own index y bytes maxL ret hh ws rm mc ms n := by
  have ok : ∀ w ∈ va_wsS own index y ws, w.before args s = true := fun w h => ht w (hT w h).1
  have hG : GoodIn Ts ws := fun w h => hT w (by unfold va_wsS; exact List.mem_append_right _ h)
  have hc : Cond.codeWith y bytes maxL ret hh ∈ ws := by rw [hw]; exact List.mem_cons_self
  refine ⟨⟨hrc, hrs, hR.1, hR.2, pay_in ht hG, hc⟩, ht _ (hG _ hc).1, ok _ (by simp [va_wsS]), ⟨hd.1, hd.2.1⟩, fun sig h => ?_, ok _ (by simp [va_wsS]), ok _ (by simp [va_wsS])⟩
  have h2 := hd.2.2
  rw [h] at h2
  exact (Option.some.inj h2).symm
theorem vx_callSW (X : Stand p l e R s m args below meth c T locs cells slots) (hexec : p.tables.exec = Jvm.exec) {own : String} {index : Nat} {y : MethodName} {bytes : ByteArray} {maxL : Nat} {ret : Option FieldType} {hh : List (Nat × Nat × Nat × Nat)}
    (hown : s.vm.findClass own = some m.cls) (hlink : (Cond.methodLink own index y).before args s = true) (hstat : (Cond.static y).before args s = true) (hinit : (Cond.initialized y.cls).before args s = true)
    (hcode : (Cond.codeWith y bytes maxL ret hh).before args s = true) (hy : y.cls ≠ "java/lang/invoke/MethodHandle" ∧ y.cls ≠ "java/lang/invoke/VarHandle")
    {W9 : Nat} {Pre : Pt → Array Value → Prop} {Post : Pt → Array Value → Option Value → Pt → Prop} (hK : Back l R p e below s args y 3 W9 Pre Post)
    {g : JFrame} (hg : g.method = m) (hsize : g.locals.size = c.maxLocals) {argsL rest : List Value} (hlen : ∀ sig, parseMethodDescriptor y.desc = some sig → argsL.length = sig.parameters.length)
    (hstack : g.stack = argsL.reverse ++ rest) (hW : 2 * g.monitorRoom + (rest.map fun v => v.category).sum ≤ W9) (hdg : decode c.code g.pc = .ok (.invokestatic index, 3))
    (hpre : ∀ vm₁, s.WarmedH vm₁ → Pre ⟨T.setVm vm₁, locs, cells, slots⟩ argsL.toArray) :
    ∃ (v : Option Value) (vm₁ : Vm) (B : Pt), s.WarmedH vm₁ ∧ Stand p l e R s m args below meth c B.U B.locs B.cells B.slots ∧ Post ⟨T.setVm vm₁, locs, cells, slots⟩ argsL.toArray v B ∧
      ∀ target, Steps p.tables e below (B.U.setTop { g with pc := g.pc + 3, stack := v.toList ++ rest }) target → Steps p.tables e below (T.setTop g) target := by
  obtain ⟨mk, methM, cM, hnamed, hmethM, -, -, -, -, -, -, hsigM⟩ := Cond.codeWith_spec hcode
  have hstatic : methM.isStatic = true := Cond.static_spec hnamed hmethM hstat
  obtain ⟨kP, hkP, -⟩ := className_of_methodNamed hnamed
  have hinitP : kP.init = .initialized := Cond.initialized_spec (findClass_of_methodNamed hnamed) hkP hinit
  obtain ⟨vm₁, X₁, hstep₁⟩ := X.invokestatic hexec hown hlink hnamed hmethM hstatic hkP hinitP hy (g := g) hg (argsL := argsL) (rest := rest) (hlen _ hsigM) hstack hdg
  obtain ⟨v, B, X', hpost, hsteps⟩ := hK m meth c ⟨T.setVm vm₁, locs, cells, slots⟩ { g with stack := rest } (.invokestatic index) mk argsL.toArray X₁ hg hsize hdg hW (X₁.named hnamed) (hpre vm₁ X₁.warmed)
  exact ⟨v, vm₁, B, X₁.warmed, X', hpost, fun target h => hstep₁ _ fun acts => by rw [doInvoke_state]; exact hsteps.trans h⟩
theorem vx_runSW {y : MethodName} {bytes cc : ByteArray} {maxL nL mc ms n index : Nat} {ret : Option FieldType} {hh : List (Nat × Nat × Nat × Nat)} {ws : List Cond} {rm : Room} {Pc : Array Value → State → Prop} {Qc : Array Value → State → Outcome → State → Prop} {free : Addr → Prop} {Ts : List Cond} {own : String} {As rest : List Value} {g : JFrame}
    (S : CallFix p m c cc nL s args Ts own) (hM : Met l y ws rm Pc Qc mc ms free) (cw : vx_CSW R s args own index y bytes maxL ret hh ws rm mc ms n) (hp : PreS s H Pc As)
    (hg : g.method = m) (hn : As.length = n) (hsize : g.locals.size = nL) (hstack : g.stack = As.reverse ++ rest) (hW : 2 * g.monitorRoom + (rest.map fun v => v.category).sum ≤ 8) (hdg : decode cc g.pc = .ok (.invokestatic index, 3)) (hf : cells + mc ≤ R.cells ∧ slots + ms ≤ R.slots) :
    va_Run p l e R s m args below meth c H locs cells slots mc ms g rest (Qc As.toArray) (free) := by
  obtain ⟨⟨hrc, hrs, hfr, hlo, hws, hcw⟩, hcode, hini, hy, hlen, hl, hstt⟩ := cw
  have hK : Back l R p e below s args y 3 8 (PreOf R mc ms Pc) (PostOf Qc mc ms free) := va_backW (hh := hh) (bytes := bytes) (maxL := maxL) (ret := ret) hM hp.1 hrc hrs hfr hlo hws hcw (fun a' U hW => word_at hW (Or.inl (by first | rfl | simp [Cond.onTables, Cond.keeps, Cond.steady])) hini)
  obtain ⟨hx, hb, hml, ho, -⟩ := S
  intro T hT X
  obtain ⟨v, vm₁, ⟨U', l2, c2, s2⟩, hW₁, X', ⟨g', mk, t, L, e1, e2, hq, h1, hL, h2, h3⟩, st⟩ := vx_callSW X hx (hh := hh) (bytes := bytes) (maxL := maxL) (ret := ret) ho hl hstt hini hcode hy hK hg (hsize.trans hml.symm) (argsL := As) (rest := rest) (fun sig h => hn.trans (hlen sig h)) hstack hW (by rw [hb]; exact hdg)
    (fun vm₁ hW₁ => ⟨hf.1, hf.2, hp.2 (T.setVm vm₁) hT hW₁⟩)
  dsimp only [Pt.U, Pt.locs, Pt.cells, Pt.slots] at X' e1 e2 h1 h2 h3 st
  subst h1; subst h2; subst h3
  exact ⟨v, (T.setVm vm₁).calling g' mk As.toArray, t, U', L, hT, X', hL, e1, e2, hq, st⟩
/-- not caught here, past rows that name other classes: it goes on to the caller -/
theorem vx_outP {p : Program} {l : Launch} {e : Env} {R : Room} {s : State} {m : MethodId} {args : Array Value} {below : List Frame} {meth : Method} {c : Code} {H : Heap} {locs : List Loc} {cells slots : Nat} {free : Addr → Prop} {ls : Array Slot} {rest : List Value} {Qc : Array Value → State → Outcome → State → Prop} {XC : String → State → State → Prop}
    {pc : Nat} {own E : String} {ce : Cell} {q : Addr} {mc ms : Nat} (hown : s.vm.findClass own = some m.cls) (hlocks : meth.locks = false)
    (hpass : ∀ z ∈ c.exceptionTable.toList, covers z pc = false ∨ (z.catchType ≠ 0 ∧ ∃ nm : String, (Cond.classLink own z.catchType nm).before args s = true ∧ va_Nc E nm s)) (hcell : H[q]? = some ce) (hv : ce.vm = .none) (hcl : s.vm.findClass E = some ce.cls)
    (hx : ∀ t : State, t.heap = H → s.vm.Alike t.vm → XC E s t) (hf : ∀ z ∈ locs, free z.base) (hc : cells ≤ mc) (hs : slots ≤ ms) :
    vx_W p l e R s m args below meth c H locs cells slots (vx_MQ below Qc XC args s mc ms free) (F0 m pc ls rest) q := by
  intro T hT X
  have hpl : e.platform.magicAccessors = ({} : Platform).magicAccessors := by rw [X.admits.platform]
  obtain ⟨vm', hW', X', st⟩ := X.outThrough hlocks q (g := F0 m pc ls rest) rfl rfl rfl (cell := ce) (by rw [hT]; exact hcell) (by rw [hv]; rfl)
    (by obtain ⟨k9, h9, -⟩ := Vm.findClass_spec hcl; exact ⟨k9, h9⟩) (fun z hz => by
      rcases hpass z hz with h | ⟨hz0, nm, hl1, hn1⟩
      · exact Or.inl h
      · obtain ⟨c6, hc6, hcl6⟩ := Cond.classLink_spec hown hl1 e.platform hpl
        obtain ⟨a8, b8, h1, h2, h3⟩ := hn1
        cases Option.some.inj (h1.symm.trans hcl)
        cases Option.some.inj (h2.symm.trans hc6)
        exact Or.inr ⟨hz0, _, hcl6, h3⟩)
  obtain ⟨g₀, hfr⟩ := X'.frames_eq
  have hcell9 : ((T.setVm vm').setFrames (.throwing q :: below)).heap[q]? = some ce := by
    show T.heap[q]? = some ce
    rw [hT]; exact hcell
  have hend : Ended ((T.setVm vm').setFrames (.throwing q :: below)) below (.threw q) := State.frames_setFrames _ (State.cur_lt_of_frames hfr)
  refine ⟨(T.setVm vm').setFrames (.throwing q :: below), ?_, .threw q, X'.here.running, hend, Or.inr ⟨q, rfl, E, ce, locs, hx _ hT (X'.ends _).1.alike, hcell9, hv, hcl, (X'.ends _).1, (X'.ends _).2.mono hc hs, hf⟩⟩
  rw [X.pushThrowing_eq]
  exact st
/-- a thing of a world lies in the heap -/
theorem vx_lt {D : va_G} {cl : List vw_C} {ws : va_W} {H1 : Heap} (h : va_P D cl ws H1) {k : Nat} {q : Nat × va_E} (hk : ws[k]? = some q) : q.1 < H1.size := (h k q hk).lt
end VXS
/-! ===== END ===== -/
/-! ===== BEGIN methods with a table of their own: called by a name, returning or throwing ===== -/
section VXH
/-! vx_backW, vx_callVX, vx_callSX, vx_callVW, vx_runVW, vx_runVX, vx_runSX, vx_ofWH follow the same proofs as their sisters above (Free/Laws.lean, Shelf42/LK1.lean); vx_outP calls Shelf42/NT130.lean (outThrough). -/
section
variable {l : Launch} {R : Room} {p : Program} {e : Env} {below : List Frame} {s : State} {sargs : Array Value} {y : MethodName} {len W9 : Nat}
theorem vx_backW {ws : List Cond} {rm : Room} {Pc : Array Value → State → Prop} {Qc : Array Value → State → Outcome → State → Prop} {XC : String → State → State → Prop} {mc ms : Nat} {free : Addr → Prop} {bytes : ByteArray} {maxL : Nat} {ret : Option FieldType} {hh : List (Nat × Nat × Nat × Nat)}
    (hM : vx_Met l y ws rm Pc Qc XC mc ms free) (hblind : FrameBlind Pc) (hrc : rm.cells = mc) (hrs : rm.slots = ms)
    (hframes : rm.frames + 1 ≤ R.frames) (hlocals : W9 + (maxL + 11) + rm.locals ≤ R.locals)
    (hws : ∀ w ∈ ws, ∀ a' U, s.WarmedH U.vm → w.before a' U = true) (hcode : Cond.codeWith y bytes maxL ret hh ∈ ws) (hinit : ∀ a' U, s.WarmedH U.vm → (Cond.initialized y.cls).before a' U = true) :
    vx_Back l R p e below s sargs y len W9 (PreOf R mc ms Pc) (PostOf Qc mc ms free) (vx_Post XC mc ms free) := by
  intro m meth c A g ig mk a X hg hsize hdg hW hn hp
  have h1 : (headSpec ws rm).pre.before a A.U = true := atoms_intro fun w hw => hws w hw _ _ X.warmed
  have h2 : (Cond.codeWith y bytes maxL ret hh).before a A.U = true := hws _ hcode _ _ X.warmed
  have h3 : (Cond.initialized y.cls).before a A.U = true := hinit _ _ X.warmed
  have h4 : A.cells + (headSpec ws rm).room.cells ≤ R.cells := by rw [show (headSpec ws rm).room.cells = mc from hrc]; exact hp.1
  have h5 : A.slots + (headSpec ws rm).room.slots ≤ R.slots := by rw [show (headSpec ws rm).room.slots = ms from hrs]; exact hp.2.1
  have hPc : Pc a (A.U.calling g mk a) := hblind _ _ _ _ hp.2.2
  obtain ⟨U, Ls, c0, s0⟩ := A
  dsimp only [Pt.U, Pt.locs, Pt.cells, Pt.slots] at h1 h2 h3 h4 h5 X hn hPc ⊢
  obtain ⟨m9, methY, cY, hn9, hmY, hcY, -, hlY, -⟩ := Cond.codeWith_spec h2
  cases Option.some.inj (hn9.symm.trans hn)
  obtain ⟨kY, hkY, -⟩ := className_of_methodNamed hn
  have hinitY : kY.init = .initialized := Cond.initialized_spec (findClass_of_methodNamed hn) hkY h3
  have h : At U g.method c below := by rw [hg]; exact X.here
  have hlocals9 : W9 + (maxL + 11) + (headSpec ws rm).room.locals ≤ R.locals := hlocals
  have happ : (headSpec ws rm).appliesLoose y e.platform (U.calling g mk a) = true :=
    Spec.appliesLoose_calling (g := g) h hdg hn hkY hinitY
      (X.room_calling (g := g) (R' := (headSpec ws rm).room) hsize hmY hcY hframes (by rw [hlY]; omega) h4 h5) h1
  obtain ⟨mid, hmid⟩ := h.above
  have hfr : (U.setTop g).frames = (.java g :: mid) ++ below := by rw [State.frames_setTop' g h.top, hmid]; rfl
  obtain ⟨o, s₂, hsteps, -, hend, hq⟩ := Steps.callFree hM p X.admits X.cas X.clock (acts := []) hfr happ hPc trivial
  have hq' : vx_Q Qc XC mc ms free a (U.calling g mk a) o s₂ := hq
  rw [State.frames_setTop' g h.top] at hend
  obtain ⟨g₀, hg0⟩ := Option.isSome_iff_exists.mp h.top
  obtain ⟨r, hr⟩ := State.topJava?_eq_some.mp hg0
  have hr' : (({ U with heap := s₂.heap, slotsUsed := s₂.slotsUsed } : State).setVm s₂.vm).frames = .java g₀ :: r := hr
  rcases hq' with ⟨hqc, L, hfe, hL⟩ | ⟨q, rfl, E, ce, L, hx, hce, hcv, hcl, hW₂, hsm, hL⟩
  · obtain ⟨⟨v, rfl⟩, hW₂, e2, q2, q3, q4, q5, q6⟩ := id hfe
    have e3 : s₂ = ({ (U.calling g mk a).setFrames s₂.frames with heap := s₂.heap, slotsUsed := s₂.slotsUsed } : State).setVm s₂.vm := by
      have : s₂ = ({ s₂ with vm := (U.calling g mk a).vm } : State).setVm s₂.vm := rfl
      rw [e2] at this
      exact this
    obtain ⟨c₂, i₂, len₂, hc₂, hd₂, hf₂⟩ := hend
    have hW' : U.WarmedH s₂.vm := hW₂
    have hcc : c₂ = c := by
      have h1 : s₂.code? g.method = U.code? g.method := by
        rw [State.code?_eq, State.code?_eq, hW'.alike.method?]
      exact Option.some.inj (hc₂.symm.trans (h1.trans h.code))
    subst hcc
    have hlen : len₂ = len := by rw [hdg] at hd₂; cases hd₂; rfl
    subst hlen
    have hs₂ : s₂ = (({ U with heap := s₂.heap, slotsUsed := s₂.slotsUsed } : State).setVm s₂.vm).setTop { g with pc := g.pc + len₂, stack := v.toList ++ g.stack } := by
      refine e3.trans ?_
      rw [hf₂, State.calling_eq h.top, State.setFrames_setFrames, State.setTop_of_frames _ hr', hr]
      rfl
    have hsame : U.sameButNew ({ U with heap := s₂.heap, slotsUsed := s₂.slotsUsed } : State) L mc ms := by
      refine ⟨?_, q2, q3, q4, q5, q6⟩
      obtain ⟨t, ht, -⟩ := State.frames_cons hr
      show ({ U with heap := s₂.heap, slotsUsed := s₂.slotsUsed } : State) = { U.setFrames U.frames with heap := s₂.heap, slotsUsed := s₂.slotsUsed }
      rw [State.setFrames_self ht]
    subst hg
    refine Or.inl ⟨v, ⟨(({ U with heap := s₂.heap, slotsUsed := s₂.slotsUsed } : State).setVm s₂.vm), Ls ++ L, c0 + mc, s0 + ms⟩,
      ⟨X.admits, X.cas, X.clock, X.frames, X.room, X.hears, X.method, X.code, (X.here.setHeapUsed s₂.heap s₂.slotsUsed).setVm hW'.alike, X.tail, State.WarmedH.trans X.warmed hW', X.limits, X.bytes, X.same.trans (hsame.setVm s.vm)⟩,
      ⟨g, mk, s₂, L, rfl, rfl, hqc, rfl, hL, rfl, rfl⟩, ?_⟩
    show Steps p.tables e below _ ((({ U with heap := s₂.heap, slotsUsed := s₂.slotsUsed } : State).setVm s₂.vm).setTop { g with pc := g.pc + len₂, stack := v.toList ++ g.stack })
    rw [← hs₂]
    exact hsteps
  · obtain ⟨e2, q2, q3, q4, q5, q6⟩ := id hsm
    have e3 : s₂ = ({ (U.calling g mk a).setFrames s₂.frames with heap := s₂.heap, slotsUsed := s₂.slotsUsed } : State).setVm s₂.vm := by
      have : s₂ = ({ s₂ with vm := (U.calling g mk a).vm } : State).setVm s₂.vm := rfl
      rw [e2] at this
      exact this
    have hf₂ : s₂.frames = .throwing q :: .java g :: U.frames.tail := hend
    have hW' : U.WarmedH s₂.vm := hW₂
    have hs₂ : s₂ = ((({ U with heap := s₂.heap, slotsUsed := s₂.slotsUsed } : State).setVm s₂.vm).setTop g).pushFrame (.throwing q) := by
      refine e3.trans ?_
      rw [hf₂, State.calling_eq h.top, State.setFrames_setFrames, State.pushFrame, State.frames_setTop _ hr', State.setTop_of_frames _ hr', State.setFrames_setFrames, hr]
      rfl
    have hsame : U.sameButNew ({ U with heap := s₂.heap, slotsUsed := s₂.slotsUsed } : State) L mc ms := by
      refine ⟨?_, q2, q3, q4, q5, q6⟩
      obtain ⟨t, ht, -⟩ := State.frames_cons hr
      show ({ U with heap := s₂.heap, slotsUsed := s₂.slotsUsed } : State) = { U.setFrames U.frames with heap := s₂.heap, slotsUsed := s₂.slotsUsed }
      rw [State.setFrames_self ht]
    subst hg
    refine Or.inr ⟨q, ⟨(({ U with heap := s₂.heap, slotsUsed := s₂.slotsUsed } : State).setVm s₂.vm), Ls ++ L, c0 + mc, s0 + ms⟩,
      ⟨X.admits, X.cas, X.clock, X.frames, X.room, X.hears, X.method, X.code, (X.here.setHeapUsed s₂.heap s₂.slotsUsed).setVm hW'.alike, X.tail, State.WarmedH.trans X.warmed hW', X.limits, X.bytes, X.same.trans (hsame.setVm s.vm)⟩,
      ⟨g, mk, s₂, L, E, ce, rfl, rfl, hx, hce, hcv, hcl, rfl, hL, rfl, rfl⟩, ?_⟩
    show Steps p.tables e below _ (((({ U with heap := s₂.heap, slotsUsed := s₂.slotsUsed } : State).setVm s₂.vm).setTop g).pushFrame (.throwing q))
    rw [← hs₂]
    exact hsteps
end
variable {p : Program} {l : Launch} {e : Env} {R : Room} {s : State} {m : MethodId} {args : Array Value} {below : List Frame} {meth : Method} {c : Code} {T : State} {H : Heap} {locs : List Loc} {cells slots : Nat}
theorem vx_callVX (X : Stand p l e R s m args below meth c T locs cells slots) (hexec : p.tables.exec = Jvm.exec) {own C : String} {index : Nat} {y : MethodName} {bytes : ByteArray} {maxL : Nat} {ret : Option FieldType} {hh : List (Nat × Nat × Nat × Nat)}
    (hown : s.vm.findClass own = some m.cls) (hlink : (Cond.methodLink own index y).before args s = true) (hinst : (Cond.instanceMethod y).before args s = true) (hsel : (Cond.selects C y y).before args s = true)
    (hcode : (Cond.codeWith y bytes maxL ret hh).before args s = true) (hy : y.cls ≠ "java/lang/invoke/MethodHandle" ∧ y.cls ≠ "java/lang/invoke/VarHandle")
    {W9 : Nat} {Pre : Pt → Array Value → Prop} {Post : Pt → Array Value → Option Value → Pt → Prop} {PostX : Pt → Array Value → Addr → Pt → Prop} (hK : vx_Back l R p e below s args y 3 W9 Pre Post PostX)
    {b : Addr} {cellB : Cell} (hcell : T.heap[b]? = some cellB) (hobj : cellB.vm.isStatics = false) (hcls : s.vm.findClass C = some cellB.cls)
    {g : JFrame} (hg : g.method = m) (hsize : g.locals.size = c.maxLocals) {argsL rest : List Value} (hlen : ∀ sig, parseMethodDescriptor y.desc = some sig → argsL.length = sig.parameters.length)
    (hstack : g.stack = argsL.reverse ++ .ref b :: rest) (hW : 2 * g.monitorRoom + (rest.map fun v => v.category).sum ≤ W9) (hdg : decode c.code g.pc = .ok (.invokevirtual index, 3))
    (hpre : ∀ vm₁, s.WarmedH vm₁ → Pre ⟨T.setVm vm₁, locs, cells, slots⟩ (Value.ref b :: argsL).toArray) :
    (∃ (v : Option Value) (vm₁ : Vm) (B : Pt), s.WarmedH vm₁ ∧ Stand p l e R s m args below meth c B.U B.locs B.cells B.slots ∧ Post ⟨T.setVm vm₁, locs, cells, slots⟩ (Value.ref b :: argsL).toArray v B ∧
      ∀ target, Steps p.tables e below (B.U.setTop { g with pc := g.pc + 3, stack := v.toList ++ rest }) target → Steps p.tables e below (T.setTop g) target) ∨
    (∃ (q : Addr) (vm₁ : Vm) (B : Pt), s.WarmedH vm₁ ∧ Stand p l e R s m args below meth c B.U B.locs B.cells B.slots ∧ PostX ⟨T.setVm vm₁, locs, cells, slots⟩ (Value.ref b :: argsL).toArray q B ∧
      Steps p.tables e below (T.setTop g) ((B.U.setTop { g with stack := rest }).pushFrame (.throwing q))) := by
  obtain ⟨mk, methM, hnamed, hmethM, hstM, habM⟩ := Cond.instanceMethod_spec hinst
  obtain ⟨m8, methM', cM, hn8, hmethM', -, -, -, -, -, -, hsigM⟩ := Cond.codeWith_spec hcode
  cases Option.some.inj (hn8.symm.trans hnamed)
  cases hmethM.symm.trans hmethM'
  obtain ⟨c2, r2, m2, q1, q2, q3, q4, kP, hkP, hkPi⟩ := Cond.selects_spec hsel
  cases hcls.symm.trans q1
  cases (State.methodFound?_of_named hnamed hy).symm.trans q2
  cases hnamed.symm.trans q3
  have hselP : selectMethod e.platform s.vm cellB.cls mk = .method mk := by rw [Launch.admits_selectMethod X.admits]; exact q4
  obtain ⟨vm₁, X₁, hstep₁⟩ := X.invokevirtual hexec hown hlink hnamed hmethM hstM hkP hkPi hy (a := b) (cell := cellB) hcell
    (fun z h => by rw [h] at hobj; cases hobj) hselP hmethM habM hkP hkPi (g := g) hg (argsL := argsL) (rest := rest) (hlen _ hsigM) hstack hdg
  rcases hK m meth c ⟨T.setVm vm₁, locs, cells, slots⟩ { g with stack := rest } (.invokevirtual index) mk (Value.ref b :: argsL).toArray X₁ hg hsize hdg hW (X₁.named hnamed) (hpre vm₁ X₁.warmed) with ⟨v, B, X', hpost, hsteps⟩ | ⟨q, B, X', hpost, hsteps⟩
  · exact Or.inl ⟨v, vm₁, B, X₁.warmed, X', hpost, fun target h => hstep₁ _ fun acts => by rw [doInvoke_state]; exact hsteps.trans h⟩
  · exact Or.inr ⟨q, vm₁, B, X₁.warmed, X', hpost, hstep₁ _ fun acts => by rw [doInvoke_state]; exact hsteps⟩
theorem vx_callSX (X : Stand p l e R s m args below meth c T locs cells slots) (hexec : p.tables.exec = Jvm.exec) {own : String} {index : Nat} {y : MethodName} {bytes : ByteArray} {maxL : Nat} {ret : Option FieldType} {hh : List (Nat × Nat × Nat × Nat)}
    (hown : s.vm.findClass own = some m.cls) (hlink : (Cond.methodLink own index y).before args s = true) (hstat : (Cond.static y).before args s = true) (hinit : (Cond.initialized y.cls).before args s = true)
    (hcode : (Cond.codeWith y bytes maxL ret hh).before args s = true) (hy : y.cls ≠ "java/lang/invoke/MethodHandle" ∧ y.cls ≠ "java/lang/invoke/VarHandle")
    {W9 : Nat} {Pre : Pt → Array Value → Prop} {Post : Pt → Array Value → Option Value → Pt → Prop} {PostX : Pt → Array Value → Addr → Pt → Prop} (hK : vx_Back l R p e below s args y 3 W9 Pre Post PostX)
    {g : JFrame} (hg : g.method = m) (hsize : g.locals.size = c.maxLocals) {argsL rest : List Value} (hlen : ∀ sig, parseMethodDescriptor y.desc = some sig → argsL.length = sig.parameters.length)
    (hstack : g.stack = argsL.reverse ++ rest) (hW : 2 * g.monitorRoom + (rest.map fun v => v.category).sum ≤ W9) (hdg : decode c.code g.pc = .ok (.invokestatic index, 3))
    (hpre : ∀ vm₁, s.WarmedH vm₁ → Pre ⟨T.setVm vm₁, locs, cells, slots⟩ argsL.toArray) :
    (∃ (v : Option Value) (vm₁ : Vm) (B : Pt), s.WarmedH vm₁ ∧ Stand p l e R s m args below meth c B.U B.locs B.cells B.slots ∧ Post ⟨T.setVm vm₁, locs, cells, slots⟩ argsL.toArray v B ∧
      ∀ target, Steps p.tables e below (B.U.setTop { g with pc := g.pc + 3, stack := v.toList ++ rest }) target → Steps p.tables e below (T.setTop g) target) ∨
    (∃ (q : Addr) (vm₁ : Vm) (B : Pt), s.WarmedH vm₁ ∧ Stand p l e R s m args below meth c B.U B.locs B.cells B.slots ∧ PostX ⟨T.setVm vm₁, locs, cells, slots⟩ argsL.toArray q B ∧
      Steps p.tables e below (T.setTop g) ((B.U.setTop { g with stack := rest }).pushFrame (.throwing q))) := by
  obtain ⟨mk, methM, cM, hnamed, hmethM, -, -, -, -, -, -, hsigM⟩ := Cond.codeWith_spec hcode
  have hstatic : methM.isStatic = true := Cond.static_spec hnamed hmethM hstat
  obtain ⟨kP, hkP, -⟩ := className_of_methodNamed hnamed
  have hinitP : kP.init = .initialized := Cond.initialized_spec (findClass_of_methodNamed hnamed) hkP hinit
  obtain ⟨vm₁, X₁, hstep₁⟩ := X.invokestatic hexec hown hlink hnamed hmethM hstatic hkP hinitP hy (g := g) hg (argsL := argsL) (rest := rest) (hlen _ hsigM) hstack hdg
  rcases hK m meth c ⟨T.setVm vm₁, locs, cells, slots⟩ { g with stack := rest } (.invokestatic index) mk argsL.toArray X₁ hg hsize hdg hW (X₁.named hnamed) (hpre vm₁ X₁.warmed) with ⟨v, B, X', hpost, hsteps⟩ | ⟨q, B, X', hpost, hsteps⟩
  · exact Or.inl ⟨v, vm₁, B, X₁.warmed, X', hpost, fun target h => hstep₁ _ fun acts => by rw [doInvoke_state]; exact hsteps.trans h⟩
  · exact Or.inr ⟨q, vm₁, B, X₁.warmed, X', hpost, hstep₁ _ fun acts => by rw [doInvoke_state]; exact hsteps⟩
theorem vx_callVW (X : Stand p l e R s m args below meth c T locs cells slots) (hexec : p.tables.exec = Jvm.exec) {own C : String} {index : Nat} {y : MethodName} {bytes : ByteArray} {maxL : Nat} {ret : Option FieldType} {hh : List (Nat × Nat × Nat × Nat)}
    (hown : s.vm.findClass own = some m.cls) (hlink : (Cond.methodLink own index y).before args s = true) (hinst : (Cond.instanceMethod y).before args s = true) (hsel : (Cond.selects C y y).before args s = true)
    (hcode : (Cond.codeWith y bytes maxL ret hh).before args s = true) (hy : y.cls ≠ "java/lang/invoke/MethodHandle" ∧ y.cls ≠ "java/lang/invoke/VarHandle")
    {W9 : Nat} {Pre : Pt → Array Value → Prop} {Post : Pt → Array Value → Option Value → Pt → Prop} (hK : Back l R p e below s args y 3 W9 Pre Post)
    {b : Addr} {cellB : Cell} (hcell : T.heap[b]? = some cellB) (hobj : cellB.vm.isStatics = false) (hcls : s.vm.findClass C = some cellB.cls)
    {g : JFrame} (hg : g.method = m) (hsize : g.locals.size = c.maxLocals) {argsL rest : List Value} (hlen : ∀ sig, parseMethodDescriptor y.desc = some sig → argsL.length = sig.parameters.length)
    (hstack : g.stack = argsL.reverse ++ .ref b :: rest) (hW : 2 * g.monitorRoom + (rest.map fun v => v.category).sum ≤ W9) (hdg : decode c.code g.pc = .ok (.invokevirtual index, 3))
    (hpre : ∀ vm₁, s.WarmedH vm₁ → Pre ⟨T.setVm vm₁, locs, cells, slots⟩ (Value.ref b :: argsL).toArray) :
    ∃ (v : Option Value) (vm₁ : Vm) (B : Pt), s.WarmedH vm₁ ∧ Stand p l e R s m args below meth c B.U B.locs B.cells B.slots ∧ Post ⟨T.setVm vm₁, locs, cells, slots⟩ (Value.ref b :: argsL).toArray v B ∧
      ∀ target, Steps p.tables e below (B.U.setTop { g with pc := g.pc + 3, stack := v.toList ++ rest }) target → Steps p.tables e below (T.setTop g) target := by
  obtain ⟨mk, methM, hnamed, hmethM, hstM, habM⟩ := Cond.instanceMethod_spec hinst
  obtain ⟨m8, methM', cM, hn8, hmethM', -, -, -, -, -, -, hsigM⟩ := Cond.codeWith_spec hcode
  cases Option.some.inj (hn8.symm.trans hnamed)
  cases hmethM.symm.trans hmethM'
  obtain ⟨c2, r2, m2, q1, q2, q3, q4, kP, hkP, hkPi⟩ := Cond.selects_spec hsel
  cases hcls.symm.trans q1
  cases (State.methodFound?_of_named hnamed hy).symm.trans q2
  cases hnamed.symm.trans q3
  have hselP : selectMethod e.platform s.vm cellB.cls mk = .method mk := by rw [Launch.admits_selectMethod X.admits]; exact q4
  obtain ⟨vm₁, X₁, hstep₁⟩ := X.invokevirtual hexec hown hlink hnamed hmethM hstM hkP hkPi hy (a := b) (cell := cellB) hcell
    (fun z h => by rw [h] at hobj; cases hobj) hselP hmethM habM hkP hkPi (g := g) hg (argsL := argsL) (rest := rest) (hlen _ hsigM) hstack hdg
  obtain ⟨v, B, X', hpost, hsteps⟩ := hK m meth c ⟨T.setVm vm₁, locs, cells, slots⟩ { g with stack := rest } (.invokevirtual index) mk (Value.ref b :: argsL).toArray X₁ hg hsize hdg hW (X₁.named hnamed) (hpre vm₁ X₁.warmed)
  exact ⟨v, vm₁, B, X₁.warmed, X', hpost, fun target h => hstep₁ _ fun acts => by rw [doInvoke_state]; exact hsteps.trans h⟩
abbrev vx_CVW (R : Room) (s : State) (args : Array Value) (own C : String) (index : Nat) (y : MethodName) (bytes : ByteArray) (maxL : Nat) (ret : Option FieldType) (hh : List (Nat × Nat × Nat × Nat)) (ws : List Cond) (rm : Room) (mc ms n : Nat) : Prop :=
  (rm.cells = mc ∧ rm.slots = ms ∧ rm.frames + 1 ≤ R.frames ∧ 8 + (maxL + 11) + rm.locals ≤ R.locals ∧ (∀ w ∈ ws, ∀ (a' : Array Value) (U : State), s.WarmedH U.vm → w.before a' U = true) ∧ Cond.codeWith y bytes maxL ret hh ∈ ws) ∧
  (Cond.codeWith y bytes maxL ret hh).before args s = true ∧ (Cond.initialized y.cls).before args s = true ∧ (y.cls ≠ "java/lang/invoke/MethodHandle" ∧ y.cls ≠ "java/lang/invoke/VarHandle") ∧
  (∀ sig, parseMethodDescriptor y.desc = some sig → n = sig.parameters.length) ∧ (Cond.methodLink own index y).before args s = true ∧ (Cond.instanceMethod y).before args s = true ∧ (Cond.selects C y y).before args s = true
theorem vx_cwVW {own C : String} {index maxL mc ms : Nat} {y : MethodName} {bytes : ByteArray} {ret : Option FieldType} {hh : List (Nat × Nat × Nat × Nat)} {Ts ws ws' : List Cond} {rm : Room} (n : Nat) (ht : ∀ w ∈ Ts, w.before args s = true) (hT : GoodIn Ts (wsV own index C y ws)) (hw : ws = Cond.codeWith y bytes maxL ret hh :: ws') (hrc : rm.cells = mc) (hrs : rm.slots = ms)
    (hd : y.cls = C ∧ y.cls ≠ "java/lang/invoke/MethodHandle" ∧ y.cls ≠ "java/lang/invoke/VarHandle" ∧ (parseMethodDescriptor y.desc).map (fun d => d.parameters.length) = some n) (hR : rm.frames + 1 ≤ R.frames ∧ 8 + (maxL + 11) + rm.locals ≤ R.locals) :
    vx_CVW R s args own C index y bytes maxL ret hh ws rm mc ms n := by
  obtain ⟨hC, hd⟩ := hd
  subst hC
  have ok : ∀ w ∈ wsV own index y.cls y ws, w.before args s = true := fun w h => ht w (hT w h).1
  have hG : GoodIn Ts ws := fun w h => hT w (by unfold wsV; exact List.mem_append_right _ h)
  have hc : Cond.codeWith y bytes maxL ret hh ∈ ws := by rw [hw]; exact List.mem_cons_self
  refine ⟨⟨hrc, hrs, hR.1, hR.2, pay_in ht hG, hc⟩, ht _ (hG _ hc).1, ok _ (by simp [wsV]), ⟨hd.1, hd.2.1⟩, fun sig h => ?_, ok _ (by simp [wsV]), ok _ (by simp [wsV]), ok _ (by simp [wsV])⟩
  have h2 := hd.2.2
  rw [h] at h2
  exact (Option.some.inj h2).symm
theorem vx_runVW {y : MethodName} {bytes cc : ByteArray} {maxL nL mc ms n index : Nat} {ret : Option FieldType} {hh : List (Nat × Nat × Nat × Nat)} {ws : List Cond} {rm : Room} {Pc : Array Value → State → Prop} {Qc : Array Value → State → Outcome → State → Prop} {free : Addr → Prop} {Ts : List Cond} {own C : String} {b : Addr} {As rest : List Value} {g : JFrame}
    (S : CallFix p m c cc nL s args Ts own) (hM : Met l y ws rm Pc Qc mc ms free) (cw : vx_CVW R s args own C index y bytes maxL ret hh ws rm mc ms n) (hp : PreV s H C b Pc As)
    (hg : g.method = m) (hn : As.length = n) (hsize : g.locals.size = nL) (hstack : g.stack = As.reverse ++ .ref b :: rest) (hW : 2 * g.monitorRoom + (rest.map fun v => v.category).sum ≤ 8) (hdg : decode cc g.pc = .ok (.invokevirtual index, 3)) (hf : cells + mc ≤ R.cells ∧ slots + ms ≤ R.slots) :
    va_Run p l e R s m args below meth c H locs cells slots mc ms g rest (Qc (Value.ref b :: As).toArray) free := by
  obtain ⟨⟨hrc, hrs, hfr, hlo, hws, hcw⟩, hcode, hini, hy, hlen, hl, hin, hse⟩ := cw
  have hK : Back l R p e below s args y 3 8 (PreOf R mc ms Pc) (PostOf Qc mc ms free) := va_backW (hh := hh) (bytes := bytes) (maxL := maxL) (ret := ret) hM hp.1 hrc hrs hfr hlo hws hcw (fun a' U hW => word_at hW (Or.inl (by first | rfl | simp [Cond.onTables, Cond.keeps, Cond.steady])) hini)
  obtain ⟨hx, hb, hml, ho, -⟩ := S
  obtain ⟨-, ⟨cellB, hcB, hoB, hclB⟩, hPc⟩ := hp
  intro T hT X
  obtain ⟨v, vm₁, ⟨U', l2, c2, s2⟩, hW₁, X', ⟨g', mk, t, L, e1, e2, hq, h1, hL, h2, h3⟩, st⟩ := vx_callVW X hx (C := C) (hh := hh) (bytes := bytes) (maxL := maxL) (ret := ret) ho hl hin hse hcode hy hK (by rw [hT]; exact hcB) hoB hclB hg (hsize.trans hml.symm) (argsL := As) (rest := rest) (fun sig h => hn.trans (hlen sig h)) hstack hW (by rw [hb]; exact hdg)
    (fun vm₁ hW₁ => ⟨hf.1, hf.2, hPc (T.setVm vm₁) hT hW₁⟩)
  dsimp only [Pt.U, Pt.locs, Pt.cells, Pt.slots] at X' e1 e2 h1 h2 h3 st
  subst h1; subst h2; subst h3
  exact ⟨v, (T.setVm vm₁).calling g' mk (Value.ref b :: As).toArray, t, U', L, hT, X', hL, e1, e2, hq, st⟩
section
variable {y : MethodName} {bytes cc : ByteArray} {maxL nL mc ms n index : Nat} {ret : Option FieldType} {ws : List Cond} {rm : Room} {Pc : Array Value → State → Prop} {Qc : Array Value → State → Outcome → State → Prop} {XC : String → State → State → Prop} {free : Addr → Prop} {Ts : List Cond} {own C : String} {b : Addr} {As rest : List Value} {g : JFrame}
theorem vx_runVX {hh : List (Nat × Nat × Nat × Nat)} (S : CallFix p m c cc nL s args Ts own) (hM : vx_Met l y ws rm Pc Qc XC mc ms free) (cw : vx_CVW R s args own C index y bytes maxL ret hh ws rm mc ms n) (hp : PreV s H C b Pc As)
    (hg : g.method = m) (hn : As.length = n) (hsize : g.locals.size = nL) (hstack : g.stack = As.reverse ++ .ref b :: rest) (hW : 2 * g.monitorRoom + (rest.map fun v => v.category).sum ≤ 8) (hdg : decode cc g.pc = .ok (.invokevirtual index, 3)) (hf : cells + mc ≤ R.cells ∧ slots + ms ≤ R.slots) :
    vx_Run p l e R s m args below meth c H locs cells slots mc ms g rest (Qc (Value.ref b :: As).toArray) XC free := by
  obtain ⟨⟨hrc, hrs, hfr, hlo, hws, hcw⟩, hcode, hini, hy, hlen, hl, hin, hse⟩ := cw
  have hK : vx_Back l R p e below s args y 3 8 (PreOf R mc ms Pc) (PostOf Qc mc ms free) (vx_Post XC mc ms free) := vx_backW (hh := hh) (bytes := bytes) (maxL := maxL) (ret := ret) hM hp.1 hrc hrs hfr hlo hws hcw (fun a' U hW => word_at hW (Or.inl (by first | rfl | simp [Cond.onTables, Cond.keeps, Cond.steady])) hini)
  obtain ⟨hx, hb, hml, ho, -⟩ := S
  obtain ⟨-, ⟨cellB, hcB, hoB, hclB⟩, hPc⟩ := hp
  intro T hT X
  rcases vx_callVX X hx (C := C) (hh := hh) (bytes := bytes) (maxL := maxL) (ret := ret) ho hl hin hse hcode hy hK (by rw [hT]; exact hcB) hoB hclB hg (hsize.trans hml.symm) (argsL := As) (rest := rest) (fun sig h => hn.trans (hlen sig h)) hstack hW (by rw [hb]; exact hdg)
    (fun vm₁ hW₁ => ⟨hf.1, hf.2, hPc (T.setVm vm₁) hT hW₁⟩) with ⟨v, vm₁, ⟨U', l2, c2, s2⟩, hW₁, X', ⟨g', mk, t, L, e1, e2, hq, h1, hL, h2, h3⟩, st⟩ | ⟨q, vm₁, ⟨U', l2, c2, s2⟩, hW₁, X', ⟨g', mk, t, L, E, ce, e1, e2, hq, hce, hcv, hcl, h1, hL, h2, h3⟩, st⟩
  · dsimp only [Pt.U, Pt.locs, Pt.cells, Pt.slots] at X' e1 e2 h1 h2 h3 st
    subst h1; subst h2; subst h3
    exact Or.inl ⟨v, (T.setVm vm₁).calling g' mk (Value.ref b :: As).toArray, t, U', L, hT, X', hL, e1, e2, hq, st⟩
  · dsimp only [Pt.U, Pt.locs, Pt.cells, Pt.slots] at X' e1 e2 h1 h2 h3 st hcl
    subst h1; subst h2; subst h3
    exact Or.inr ⟨q, (T.setVm vm₁).calling g' mk (Value.ref b :: As).toArray, t, U', L, E, ce, hT, X', hL, e1, e2, hq, hce, hcv, vx_cls hW₁ hcl, st⟩
theorem vx_runSX {hh : List (Nat × Nat × Nat × Nat)} (S : CallFix p m c cc nL s args Ts own) (hM : vx_Met l y ws rm Pc Qc XC mc ms free) (cw : vx_CSW R s args own index y bytes maxL ret hh ws rm mc ms n) (hp : PreS s H Pc As)
    (hg : g.method = m) (hn : As.length = n) (hsize : g.locals.size = nL) (hstack : g.stack = As.reverse ++ rest) (hW : 2 * g.monitorRoom + (rest.map fun v => v.category).sum ≤ 8) (hdg : decode cc g.pc = .ok (.invokestatic index, 3)) (hf : cells + mc ≤ R.cells ∧ slots + ms ≤ R.slots) :
    vx_Run p l e R s m args below meth c H locs cells slots mc ms g rest (Qc As.toArray) XC free := by
  obtain ⟨⟨hrc, hrs, hfr, hlo, hws, hcw⟩, hcode, hini, hy, hlen, hl, hstt⟩ := cw
  have hK : vx_Back l R p e below s args y 3 8 (PreOf R mc ms Pc) (PostOf Qc mc ms free) (vx_Post XC mc ms free) := vx_backW (hh := hh) (bytes := bytes) (maxL := maxL) (ret := ret) hM hp.1 hrc hrs hfr hlo hws hcw (fun a' U hW => word_at hW (Or.inl (by first | rfl | simp [Cond.onTables, Cond.keeps, Cond.steady])) hini)
  obtain ⟨hx, hb, hml, ho, -⟩ := S
  intro T hT X
  rcases vx_callSX X hx (hh := hh) (bytes := bytes) (maxL := maxL) (ret := ret) ho hl hstt hini hcode hy hK hg (hsize.trans hml.symm) (argsL := As) (rest := rest) (fun sig h => hn.trans (hlen sig h)) hstack hW (by rw [hb]; exact hdg)
    (fun vm₁ hW₁ => ⟨hf.1, hf.2, hp.2 (T.setVm vm₁) hT hW₁⟩) with ⟨v, vm₁, ⟨U', l2, c2, s2⟩, hW₁, X', ⟨g', mk, t, L, e1, e2, hq, h1, hL, h2, h3⟩, st⟩ | ⟨q, vm₁, ⟨U', l2, c2, s2⟩, hW₁, X', ⟨g', mk, t, L, E, ce, e1, e2, hq, hce, hcv, hcl, h1, hL, h2, h3⟩, st⟩
  · dsimp only [Pt.U, Pt.locs, Pt.cells, Pt.slots] at X' e1 e2 h1 h2 h3 st
    subst h1; subst h2; subst h3
    exact Or.inl ⟨v, (T.setVm vm₁).calling g' mk As.toArray, t, U', L, hT, X', hL, e1, e2, hq, st⟩
  · dsimp only [Pt.U, Pt.locs, Pt.cells, Pt.slots] at X' e1 e2 h1 h2 h3 st hcl
    subst h1; subst h2; subst h3
    exact Or.inr ⟨q, (T.setVm vm₁).calling g' mk As.toArray, t, U', L, E, ce, hT, X', hL, e1, e2, hq, hce, hcv, vx_cls hW₁ hcl, st⟩
end
end VXH
theorem vx_ofWH {l : Launch} {y : MethodName} {ws ws' : List Cond} {rm : Room} {Pc : Array Value → State → Prop} {Qc : Array Value → State → Outcome → State → Prop} {XC : String → State → State → Prop} {mc ms : Nat} {free : Addr → Prop} {cc : ByteArray} {maxL : Nat} {ret : Option FieldType} {hh : List (Nat × Nat × Nat × Nat)}
    (hy : plainName y.cls = true) (hw : ws = Cond.codeWith y cc maxL ret hh :: ws')
    (body : ∀ p e s m args below meth c s₁, BodyLoose p l y (headSpec ws rm) cc maxL ret e s m args below meth c s₁ → c.maxLocals = maxL → Pc args s →
      W p l e (headSpec ws rm).room s m args below meth c s.heap [] 0 0 (vx_MQ below Qc XC args s mc ms free) (entryFrame m args maxL)) : vx_Met l y ws rm Pc Qc XC mc ms free := by
  refine MetFree.of_bodyS (code := cc) (maxLocals := maxL) (ret := ret) hy ?_ ?_
  · intro args s m h hn
    obtain ⟨m9, meth, c, hn9, h1, h2, h3, h4, -, h5, h6, -⟩ := Cond.codeWith_spec (atoms_spec (ws := ws) h _ (by rw [hw]; exact List.mem_cons_self))
    cases hn.symm.trans hn9
    exact ⟨meth, c, h1, h2, h3, h4, h5, h6⟩
  · intro p e s m args below meth c s₁ B hml hP _
    have hh0 : s₁.heap = s.heap := by rw [B.state]; rfl
    obtain ⟨t, a1, o, b1, b2, b3⟩ := body p e s m args below meth c s₁ B hml hP s₁ hh0 (Stand.of_body B)
    exact ⟨t, o, a1, b1, b2, b3⟩
/-! ===== END ===== -/

/-! ===== BEGIN printed: names, fields, word lists, decode rows ===== -/
end
section
/-! NAMES, laid by program (wip/whole/gen/mkparts.py): one list of words for every method; the classes; the methods -/
/-- every word of the tables that a callee may take over from its caller -/
def wA : List Cond := lw_tbl.filter goodWord
theorem wA_in {w : Cond} (h : w ∈ wA) : w ∈ lw_tbl := (List.mem_filter.mp h).1
theorem inT {w : Cond} (i : Nat) (h : tables_1[i]? = some w) (g : goodWord w = true) : w ∈ wA := List.mem_filter.mpr ⟨List.mem_append_right _ (List.mem_of_getElem? h), g⟩
theorem inP {w : Cond} (i : Nat) (h : (k2_sels lw_privs)[i]? = some w) (g : goodWord w = true) : w ∈ wA := List.mem_filter.mpr ⟨List.mem_append_left _ (List.mem_of_getElem? h), g⟩
theorem gA {c c2 : Cond} (h : c2 ∈ wA) : GoodIn (c :: wA) (c2 :: wA) := fun w hw => by
  have h1 : w ∈ wA := by
    rcases List.mem_cons.mp hw with e | e
    · rw [e]; exact h
    · exact e
  exact ⟨List.mem_cons_of_mem _ h1, good_of_word (List.mem_filter.mp h1).2⟩
theorem gV {c c2 : Cond} {own C : String} {idx : Nat} {y : MethodName} (h1 : Cond.methodLink own idx y ∈ wA) (h2 : Cond.instanceMethod y ∈ wA) (h3 : Cond.selects C y y ∈ wA) (h4 : Cond.initialized C ∈ wA) (h5 : c2 ∈ wA) : GoodIn (c :: wA) (wsV own idx C y (c2 :: wA)) := fun w hw => by
  have hw : w ∈ ([.methodLink own idx y, .instanceMethod y, .selects C y y, .initialized C] : List Cond) ++ (c2 :: wA) := hw
  simp only [List.mem_append, List.mem_cons, List.not_mem_nil, or_false] at hw
  have h : w ∈ wA := by
    rcases hw with (e | e | e | e) | e | e
    · rw [e]; exact h1
    · rw [e]; exact h2
    · rw [e]; exact h3
    · rw [e]; exact h4
    · rw [e]; exact h5
    · exact e
  exact ⟨List.mem_cons_of_mem _ h, good_of_word (List.mem_filter.mp h).2⟩
theorem gS {c c2 : Cond} {own : String} {idx : Nat} {y : MethodName} (h1 : Cond.methodLink own idx y ∈ wA) (h2 : Cond.static y ∈ wA) (h3 : Cond.initialized own ∈ wA) (h5 : c2 ∈ wA) : GoodIn (c :: wA) (wsS own idx y (c2 :: wA)) := fun w hw => by
  have hw : w ∈ ([.methodLink own idx y, .static y, .initialized own] : List Cond) ++ (c2 :: wA) := hw
  simp only [List.mem_append, List.mem_cons, List.not_mem_nil, or_false] at hw
  have h : w ∈ wA := by
    rcases hw with (e | e | e) | e | e
    · rw [e]; exact h1
    · rw [e]; exact h2
    · rw [e]; exact h3
    · rw [e]; exact h5
    · exact e
  exact ⟨List.mem_cons_of_mem _ h, good_of_word (List.mem_filter.mp h).2⟩
theorem gSo {c c2 : Cond} {own : String} {idx : Nat} {y : MethodName} (h1 : Cond.methodLink own idx y ∈ wA) (h2 : Cond.static y ∈ wA) (h3 : Cond.initialized y.cls ∈ wA) (h5 : c2 ∈ wA) : GoodIn (c :: wA) (va_wsS own idx y (c2 :: wA)) := fun w hw => by
  have hw : w ∈ ([.methodLink own idx y, .static y, .initialized y.cls] : List Cond) ++ (c2 :: wA) := hw
  simp only [List.mem_append, List.mem_cons, List.not_mem_nil, or_false] at hw
  have h : w ∈ wA := by
    rcases hw with (e | e | e) | e | e
    · rw [e]; exact h1
    · rw [e]; exact h2
    · rw [e]; exact h3
    · rw [e]; exact h5
    · exact e
  exact ⟨List.mem_cons_of_mem _ h, good_of_word (List.mem_filter.mp h).2⟩
theorem hA_ {c : Cond} {args : Array Value} {s : State} (h : ∀ w ∈ c :: wA, w.before args s = true) {w : Cond} (hw : w ∈ wA) : w.before args s = true := h w (List.mem_cons_of_mem _ hw)
def R_Lw : String := "LimbWorks"
def F_Lw : u_T := fun k => match k with
  | 0 => ("LimbWorks", "registers", "[LLimbWorks$Natural;", true)
  | 1 => ("LimbWorks", "spare", "LLimbWorks$Natural;", true)
  | 2 => ("LimbWorks", "bench", "LLimbWorks$Bench;", true)
  | 3 => ("LimbWorks", "roots", "LLimbWorks$Roots;", true)
  | 4 => ("LimbWorks", "pieces", "[I", true)
  | 5 => ("LimbWorks", "tape", "[B", true)
  | 6 => ("LimbWorks", "out", "[B", true)
  | 7 => ("LimbWorks", "tapeLength", "I", false)
  | _ => ("LimbWorks", "outLength", "I", false)
def t_Lw : Nat → FieldType := fun k => match k with
  | 0 => .array (.object "LimbWorks$Natural")
  | 1 => .object "LimbWorks$Natural"
  | 2 => .object "LimbWorks$Bench"
  | 3 => .object "LimbWorks$Roots"
  | 4 => .array .int
  | 5 => .array .byte
  | 6 => .array .byte
  | 7 => .int
  | _ => .int
abbrev w_Lw : List Cond := u_ws R_Lw F_Lw 9
theorem n_Lw : ∀ a, a < 9 → ∀ b, b < 9 → a ≠ b → (F_Lw a).2.1 ≠ (F_Lw b).2.1 := by decide +kernel
theorem t_Lw_ok : ∀ k, k < 9 → parseFieldDescriptor (F_Lw k).2.2.1 = some (t_Lw k) := by decide +kernel
theorem i_Lw : ∀ w ∈ w_Lw, w ∈ wA := by
  show ∀ w ∈ ([.laysFinal "LimbWorks" "LimbWorks" "registers" "[LLimbWorks$Natural;", .laysFinal "LimbWorks" "LimbWorks" "spare" "LLimbWorks$Natural;", .laysFinal "LimbWorks" "LimbWorks" "bench" "LLimbWorks$Bench;", .laysFinal "LimbWorks" "LimbWorks" "roots" "LLimbWorks$Roots;", .laysFinal "LimbWorks" "LimbWorks" "pieces" "[I", .laysFinal "LimbWorks" "LimbWorks" "tape" "[B", .laysFinal "LimbWorks" "LimbWorks" "out" "[B", .lays "LimbWorks" "LimbWorks" "tapeLength" "I", .lays "LimbWorks" "LimbWorks" "outLength" "I"] : List Cond), w ∈ wA
  exact List.forall_mem_cons.mpr ⟨inT (w := .laysFinal "LimbWorks" "LimbWorks" "registers" "[LLimbWorks$Natural;") 90 (by decide +kernel) rfl, List.forall_mem_cons.mpr ⟨inT (w := .laysFinal "LimbWorks" "LimbWorks" "spare" "LLimbWorks$Natural;") 92 (by decide +kernel) rfl, List.forall_mem_cons.mpr ⟨inT (w := .laysFinal "LimbWorks" "LimbWorks" "bench" "LLimbWorks$Bench;") 94 (by decide +kernel) rfl, List.forall_mem_cons.mpr ⟨inT (w := .laysFinal "LimbWorks" "LimbWorks" "roots" "LLimbWorks$Roots;") 96 (by decide +kernel) rfl, List.forall_mem_cons.mpr ⟨inT (w := .laysFinal "LimbWorks" "LimbWorks" "pieces" "[I") 98 (by decide +kernel) rfl, List.forall_mem_cons.mpr ⟨inT (w := .laysFinal "LimbWorks" "LimbWorks" "tape" "[B") 100 (by decide +kernel) rfl, List.forall_mem_cons.mpr ⟨inT (w := .laysFinal "LimbWorks" "LimbWorks" "out" "[B") 102 (by decide +kernel) rfl, List.forall_mem_cons.mpr ⟨inT (w := .lays "LimbWorks" "LimbWorks" "tapeLength" "I") 104 (by decide +kernel) rfl, List.forall_mem_cons.mpr ⟨inT (w := .lays "LimbWorks" "LimbWorks" "outLength" "I") 106 (by decide +kernel) rfl, fun _ h => absurd h List.not_mem_nil⟩⟩⟩⟩⟩⟩⟩⟩⟩
def R_Na : String := "LimbWorks$Natural"
def F_Na : u_T := fun k => match k with
  | 0 => ("LimbWorks$Natural", "words", "[I", true)
  | _ => ("LimbWorks$Natural", "length", "I", false)
def t_Na : Nat → FieldType := fun k => match k with
  | 0 => .array .int
  | _ => .int
abbrev w_Na : List Cond := u_ws R_Na F_Na 2
theorem n_Na : ∀ a, a < 2 → ∀ b, b < 2 → a ≠ b → (F_Na a).2.1 ≠ (F_Na b).2.1 := by decide +kernel
theorem t_Na_ok : ∀ k, k < 2 → parseFieldDescriptor (F_Na k).2.2.1 = some (t_Na k) := by decide +kernel
theorem i_Na : ∀ w ∈ w_Na, w ∈ wA := by
  show ∀ w ∈ ([.laysFinal "LimbWorks$Natural" "LimbWorks$Natural" "words" "[I", .lays "LimbWorks$Natural" "LimbWorks$Natural" "length" "I"] : List Cond), w ∈ wA
  exact List.forall_mem_cons.mpr ⟨inT (w := .laysFinal "LimbWorks$Natural" "LimbWorks$Natural" "words" "[I") 47 (by decide +kernel) rfl, List.forall_mem_cons.mpr ⟨inT (w := .lays "LimbWorks$Natural" "LimbWorks$Natural" "length" "I") 49 (by decide +kernel) rfl, fun _ h => absurd h List.not_mem_nil⟩⟩
def R_Be : String := "LimbWorks$Bench"
def F_Be : u_T := fun k => match k with
  | _ => ("LimbWorks$Bench", "row", "[I", true)
def t_Be : Nat → FieldType := fun k => match k with
  | _ => .array .int
abbrev w_Be : List Cond := u_ws R_Be F_Be 1
theorem n_Be : ∀ a, a < 1 → ∀ b, b < 1 → a ≠ b → (F_Be a).2.1 ≠ (F_Be b).2.1 := by decide +kernel
theorem t_Be_ok : ∀ k, k < 1 → parseFieldDescriptor (F_Be k).2.2.1 = some (t_Be k) := by decide +kernel
theorem i_Be : ∀ w ∈ w_Be, w ∈ wA := by
  show ∀ w ∈ ([.laysFinal "LimbWorks$Bench" "LimbWorks$Bench" "row" "[I"] : List Cond), w ∈ wA
  exact List.forall_mem_cons.mpr ⟨inT (w := .laysFinal "LimbWorks$Bench" "LimbWorks$Bench" "row" "[I") 60 (by decide +kernel) rfl, fun _ h => absurd h List.not_mem_nil⟩
def R_Ro : String := "LimbWorks$Roots"
def F_Ro : u_T := fun k => match k with
  | 0 => ("LimbWorks$Roots", "lesser", "LLimbWorks$Natural;", true)
  | 1 => ("LimbWorks$Roots", "whole", "LLimbWorks$Natural;", true)
  | _ => ("LimbWorks$Roots", "part", "LLimbWorks$Natural;", true)
def t_Ro : Nat → FieldType := fun k => match k with
  | 0 => .object "LimbWorks$Natural"
  | 1 => .object "LimbWorks$Natural"
  | _ => .object "LimbWorks$Natural"
abbrev w_Ro : List Cond := u_ws R_Ro F_Ro 3
theorem n_Ro : ∀ a, a < 3 → ∀ b, b < 3 → a ≠ b → (F_Ro a).2.1 ≠ (F_Ro b).2.1 := by decide +kernel
theorem t_Ro_ok : ∀ k, k < 3 → parseFieldDescriptor (F_Ro k).2.2.1 = some (t_Ro k) := by decide +kernel
theorem i_Ro : ∀ w ∈ w_Ro, w ∈ wA := by
  show ∀ w ∈ ([.laysFinal "LimbWorks$Roots" "LimbWorks$Roots" "lesser" "LLimbWorks$Natural;", .laysFinal "LimbWorks$Roots" "LimbWorks$Roots" "whole" "LLimbWorks$Natural;", .laysFinal "LimbWorks$Roots" "LimbWorks$Roots" "part" "LLimbWorks$Natural;"] : List Cond), w ∈ wA
  exact List.forall_mem_cons.mpr ⟨inT (w := .laysFinal "LimbWorks$Roots" "LimbWorks$Roots" "lesser" "LLimbWorks$Natural;") 74 (by decide +kernel) rfl, List.forall_mem_cons.mpr ⟨inT (w := .laysFinal "LimbWorks$Roots" "LimbWorks$Roots" "whole" "LLimbWorks$Natural;") 76 (by decide +kernel) rfl, List.forall_mem_cons.mpr ⟨inT (w := .laysFinal "LimbWorks$Roots" "LimbWorks$Roots" "part" "LLimbWorks$Natural;") 78 (by decide +kernel) rfl, fun _ h => absurd h List.not_mem_nil⟩⟩⟩
def R_Mo : String := "LimbWorksModel"
def F_Mo : u_T := fun k => match k with
  | 0 => ("LimbWorksModel", "register", "[LLimbWorksModel$Nat;", true)
  | 1 => ("LimbWorksModel", "value", "LLimbWorksModel$Nat;", true)
  | 2 => ("LimbWorksModel", "other", "LLimbWorksModel$Nat;", true)
  | 3 => ("LimbWorksModel", "product", "LLimbWorksModel$Nat;", true)
  | 4 => ("LimbWorksModel", "rest", "LLimbWorksModel$Nat;", true)
  | 5 => ("LimbWorksModel", "divisor", "LLimbWorksModel$Nat;", true)
  | 6 => ("LimbWorksModel", "power", "LLimbWorksModel$Nat;", true)
  | 7 => ("LimbWorksModel", "square", "LLimbWorksModel$Nat;", true)
  | 8 => ("LimbWorksModel", "guess", "LLimbWorksModel$Nat;", true)
  | 9 => ("LimbWorksModel", "unit", "LLimbWorksModel$Nat;", true)
  | 10 => ("LimbWorksModel", "tape", "[B", true)
  | 11 => ("LimbWorksModel", "out", "[B", true)
  | 12 => ("LimbWorksModel", "tapeSize", "I", false)
  | 13 => ("LimbWorksModel", "outSize", "I", false)
  | _ => ("LimbWorksModel", "thrown", "I", false)
def t_Mo : Nat → FieldType := fun k => match k with
  | 0 => .array (.object "LimbWorksModel$Nat")
  | 1 => .object "LimbWorksModel$Nat"
  | 2 => .object "LimbWorksModel$Nat"
  | 3 => .object "LimbWorksModel$Nat"
  | 4 => .object "LimbWorksModel$Nat"
  | 5 => .object "LimbWorksModel$Nat"
  | 6 => .object "LimbWorksModel$Nat"
  | 7 => .object "LimbWorksModel$Nat"
  | 8 => .object "LimbWorksModel$Nat"
  | 9 => .object "LimbWorksModel$Nat"
  | 10 => .array .byte
  | 11 => .array .byte
  | 12 => .int
  | 13 => .int
  | _ => .int
abbrev w_Mo : List Cond := u_ws R_Mo F_Mo 15
theorem n_Mo : ∀ a, a < 15 → ∀ b, b < 15 → a ≠ b → (F_Mo a).2.1 ≠ (F_Mo b).2.1 := by decide +kernel
theorem t_Mo_ok : ∀ k, k < 15 → parseFieldDescriptor (F_Mo k).2.2.1 = some (t_Mo k) := by decide +kernel
theorem i_Mo : ∀ w ∈ w_Mo, w ∈ wA := by
  show ∀ w ∈ ([.laysFinal "LimbWorksModel" "LimbWorksModel" "register" "[LLimbWorksModel$Nat;", .laysFinal "LimbWorksModel" "LimbWorksModel" "value" "LLimbWorksModel$Nat;", .laysFinal "LimbWorksModel" "LimbWorksModel" "other" "LLimbWorksModel$Nat;", .laysFinal "LimbWorksModel" "LimbWorksModel" "product" "LLimbWorksModel$Nat;", .laysFinal "LimbWorksModel" "LimbWorksModel" "rest" "LLimbWorksModel$Nat;", .laysFinal "LimbWorksModel" "LimbWorksModel" "divisor" "LLimbWorksModel$Nat;", .laysFinal "LimbWorksModel" "LimbWorksModel" "power" "LLimbWorksModel$Nat;", .laysFinal "LimbWorksModel" "LimbWorksModel" "square" "LLimbWorksModel$Nat;", .laysFinal "LimbWorksModel" "LimbWorksModel" "guess" "LLimbWorksModel$Nat;", .laysFinal "LimbWorksModel" "LimbWorksModel" "unit" "LLimbWorksModel$Nat;", .laysFinal "LimbWorksModel" "LimbWorksModel" "tape" "[B", .laysFinal "LimbWorksModel" "LimbWorksModel" "out" "[B", .lays "LimbWorksModel" "LimbWorksModel" "tapeSize" "I", .lays "LimbWorksModel" "LimbWorksModel" "outSize" "I", .lays "LimbWorksModel" "LimbWorksModel" "thrown" "I"] : List Cond), w ∈ wA
  exact List.forall_mem_cons.mpr ⟨inT (w := .laysFinal "LimbWorksModel" "LimbWorksModel" "register" "[LLimbWorksModel$Nat;") 904 (by decide +kernel) rfl, List.forall_mem_cons.mpr ⟨inT (w := .laysFinal "LimbWorksModel" "LimbWorksModel" "value" "LLimbWorksModel$Nat;") 906 (by decide +kernel) rfl, List.forall_mem_cons.mpr ⟨inT (w := .laysFinal "LimbWorksModel" "LimbWorksModel" "other" "LLimbWorksModel$Nat;") 908 (by decide +kernel) rfl, List.forall_mem_cons.mpr ⟨inT (w := .laysFinal "LimbWorksModel" "LimbWorksModel" "product" "LLimbWorksModel$Nat;") 910 (by decide +kernel) rfl, List.forall_mem_cons.mpr ⟨inT (w := .laysFinal "LimbWorksModel" "LimbWorksModel" "rest" "LLimbWorksModel$Nat;") 912 (by decide +kernel) rfl, List.forall_mem_cons.mpr ⟨inT (w := .laysFinal "LimbWorksModel" "LimbWorksModel" "divisor" "LLimbWorksModel$Nat;") 914 (by decide +kernel) rfl, List.forall_mem_cons.mpr ⟨inT (w := .laysFinal "LimbWorksModel" "LimbWorksModel" "power" "LLimbWorksModel$Nat;") 916 (by decide +kernel) rfl, List.forall_mem_cons.mpr ⟨inT (w := .laysFinal "LimbWorksModel" "LimbWorksModel" "square" "LLimbWorksModel$Nat;") 918 (by decide +kernel) rfl, List.forall_mem_cons.mpr ⟨inT (w := .laysFinal "LimbWorksModel" "LimbWorksModel" "guess" "LLimbWorksModel$Nat;") 920 (by decide +kernel) rfl, List.forall_mem_cons.mpr ⟨inT (w := .laysFinal "LimbWorksModel" "LimbWorksModel" "unit" "LLimbWorksModel$Nat;") 922 (by decide +kernel) rfl, List.forall_mem_cons.mpr ⟨inT (w := .laysFinal "LimbWorksModel" "LimbWorksModel" "tape" "[B") 924 (by decide +kernel) rfl, List.forall_mem_cons.mpr ⟨inT (w := .laysFinal "LimbWorksModel" "LimbWorksModel" "out" "[B") 926 (by decide +kernel) rfl, List.forall_mem_cons.mpr ⟨inT (w := .lays "LimbWorksModel" "LimbWorksModel" "tapeSize" "I") 928 (by decide +kernel) rfl, List.forall_mem_cons.mpr ⟨inT (w := .lays "LimbWorksModel" "LimbWorksModel" "outSize" "I") 930 (by decide +kernel) rfl, List.forall_mem_cons.mpr ⟨inT (w := .lays "LimbWorksModel" "LimbWorksModel" "thrown" "I") 932 (by decide +kernel) rfl, fun _ h => absurd h List.not_mem_nil⟩⟩⟩⟩⟩⟩⟩⟩⟩⟩⟩⟩⟩⟩⟩
def R_Mn : String := "LimbWorksModel$Nat"
def F_Mn : u_T := fun k => match k with
  | 0 => ("LimbWorksModel$Nat", "w", "[I", true)
  | _ => ("LimbWorksModel$Nat", "n", "I", false)
def t_Mn : Nat → FieldType := fun k => match k with
  | 0 => .array .int
  | _ => .int
abbrev w_Mn : List Cond := u_ws R_Mn F_Mn 2
theorem n_Mn : ∀ a, a < 2 → ∀ b, b < 2 → a ≠ b → (F_Mn a).2.1 ≠ (F_Mn b).2.1 := by decide +kernel
theorem t_Mn_ok : ∀ k, k < 2 → parseFieldDescriptor (F_Mn k).2.2.1 = some (t_Mn k) := by decide +kernel
theorem i_Mn : ∀ w ∈ w_Mn, w ∈ wA := by
  show ∀ w ∈ ([.laysFinal "LimbWorksModel$Nat" "LimbWorksModel$Nat" "w" "[I", .lays "LimbWorksModel$Nat" "LimbWorksModel$Nat" "n" "I"] : List Cond), w ∈ wA
  exact List.forall_mem_cons.mpr ⟨inT (w := .laysFinal "LimbWorksModel$Nat" "LimbWorksModel$Nat" "w" "[I") 884 (by decide +kernel) rfl, List.forall_mem_cons.mpr ⟨inT (w := .lays "LimbWorksModel$Nat" "LimbWorksModel$Nat" "n" "I") 886 (by decide +kernel) rfl, fun _ h => absurd h List.not_mem_nil⟩⟩
def R_La : String := "LimbWorksLaw"
def R_Ji : String := "java/lang/Integer"
def R_Ja : String := "java/util/Arrays"
/-- the classes whose objects the worlds hold -/
abbrev clA : List vw_C := [(R_Lw, F_Lw, 9), (R_Na, F_Na, 2), (R_Be, F_Be, 1), (R_Ro, F_Ro, 3), (R_Mo, F_Mo, 15), (R_Mn, F_Mn, 2)]
abbrev b_Lw_init : ByteArray := prog_1_method_1_code
def y_Lw_init : MethodName := ⟨R_Lw, "<init>", "()V"⟩
abbrev q_Lw_init : Cond := .code y_Lw_init b_Lw_init 2 none
set_option maxRecDepth 20000 in
theorem kq_Lw_init : q_Lw_init ∈ wA := inT 30 rfl rfl
abbrev b_Na_init : ByteArray := prog_3_method_1_code
def y_Na_init : MethodName := ⟨R_Na, "<init>", "()V"⟩
abbrev q_Na_init : Cond := .code y_Na_init b_Na_init 1 none
set_option maxRecDepth 20000 in
theorem kq_Na_init : q_Na_init ∈ wA := inT 39 rfl rfl
abbrev b_Be_init : ByteArray := prog_2_method_1_code
def y_Be_init : MethodName := ⟨R_Be, "<init>", "()V"⟩
abbrev q_Be_init : Cond := .code y_Be_init b_Be_init 1 none
set_option maxRecDepth 20000 in
theorem kq_Be_init : q_Be_init ∈ wA := inT 57 rfl rfl
abbrev b_Ro_init : ByteArray := prog_4_method_1_code
def y_Ro_init : MethodName := ⟨R_Ro, "<init>", "()V"⟩
abbrev q_Ro_init : Cond := .code y_Ro_init b_Ro_init 1 none
set_option maxRecDepth 20000 in
theorem kq_Ro_init : q_Ro_init ∈ wA := inT 67 rfl rfl
abbrev b_La_set : ByteArray := method_3_code
def y_La_set : MethodName := ⟨R_La, "set", "(LLimbWorks;IJ[J)I"⟩
abbrev q_La_set : Cond := .codeWith y_La_set b_La_set 6 (some (.int)) [(0, 11, 14, 13)]
set_option maxRecDepth 20000 in
theorem kq_La_set : q_La_set ∈ wA := inT 112 rfl rfl
abbrev b_Lw_set : ByteArray := prog_1_method_2_code
def y_Lw_set : MethodName := ⟨R_Lw, "set", "(IJ)I"⟩
abbrev q_Lw_set : Cond := .code y_Lw_set b_Lw_set 5 (some (.int))
set_option maxRecDepth 20000 in
theorem kq_Lw_set : q_Lw_set ∈ wA := inT 117 rfl rfl
abbrev b_Lw_registerAt : ByteArray := prog_1_method_19_code
def y_Lw_registerAt : MethodName := ⟨R_Lw, "registerAt", "(I)LLimbWorks$Natural;"⟩
abbrev q_Lw_registerAt : Cond := .code y_Lw_registerAt b_Lw_registerAt 2 (some ((.object "LimbWorks$Natural")))
set_option maxRecDepth 20000 in
theorem kq_Lw_registerAt : q_Lw_registerAt ∈ wA := inT 121 rfl rfl
abbrev b_Lw_requireRange : ByteArray := prog_1_method_20_code
def y_Lw_requireRange : MethodName := ⟨R_Lw, "requireRange", "(III)V"⟩
abbrev q_Lw_requireRange : Cond := .code y_Lw_requireRange b_Lw_requireRange 3 none
set_option maxRecDepth 20000 in
theorem kq_Lw_requireRange : q_Lw_requireRange ∈ wA := inT 124 rfl rfl
abbrev b_Na_putLong : ByteArray := prog_3_method_4_code
def y_Na_putLong : MethodName := ⟨R_Na, "putLong", "(J)V"⟩
abbrev q_Na_putLong : Cond := .code y_Na_putLong b_Na_putLong 3 none
set_option maxRecDepth 20000 in
theorem kq_Na_putLong : q_Na_putLong ∈ wA := inT 194 rfl rfl
abbrev b_Na_trim : ByteArray := prog_3_method_3_code
def y_Na_trim : MethodName := ⟨R_Na, "trim", "(I)V"⟩
abbrev q_Na_trim : Cond := .code y_Na_trim b_Na_trim 2 none
set_option maxRecDepth 20000 in
theorem kq_Na_trim : q_Na_trim ∈ wA := inT 198 rfl rfl
abbrev b_Na_countBits : ByteArray := prog_3_method_2_code
def y_Na_countBits : MethodName := ⟨R_Na, "countBits", "()I"⟩
abbrev q_Na_countBits : Cond := .code y_Na_countBits b_Na_countBits 1 (some (.int))
set_option maxRecDepth 20000 in
theorem kq_Na_countBits : q_Na_countBits ∈ wA := inT 202 rfl rfl
abbrev b_Lw_bitsOf : ByteArray := prog_1_method_23_code
def y_Lw_bitsOf : MethodName := ⟨R_Lw, "bitsOf", "(I)I"⟩
abbrev q_Lw_bitsOf : Cond := .code y_Lw_bitsOf b_Lw_bitsOf 2 (some (.int))
set_option maxRecDepth 20000 in
theorem kq_Lw_bitsOf : q_Lw_bitsOf ∈ wA := inT 205 rfl rfl
abbrev b_Ji_bitCount : ByteArray := prog_14_method_49_code
def y_Ji_bitCount : MethodName := ⟨R_Ji, "bitCount", "(I)I"⟩
abbrev q_Ji_bitCount : Cond := .code y_Ji_bitCount b_Ji_bitCount 1 (some (.int))
set_option maxRecDepth 20000 in
theorem kq_Ji_bitCount : q_Ji_bitCount ∈ wA := inT 208 rfl rfl
abbrev b_La_copy : ByteArray := method_4_code
def y_La_copy : MethodName := ⟨R_La, "copy", "(LLimbWorks;II[J)I"⟩
abbrev q_La_copy : Cond := .codeWith y_La_copy b_La_copy 5 (some (.int)) [(0, 10, 13, 13)]
set_option maxRecDepth 20000 in
theorem kq_La_copy : q_La_copy ∈ wA := inT 214 rfl rfl
abbrev b_Lw_copy : ByteArray := prog_1_method_3_code
def y_Lw_copy : MethodName := ⟨R_Lw, "copy", "(II)I"⟩
abbrev q_Lw_copy : Cond := .code y_Lw_copy b_Lw_copy 4 (some (.int))
set_option maxRecDepth 20000 in
theorem kq_Lw_copy : q_Lw_copy ∈ wA := inT 218 rfl rfl
abbrev b_Lw_keep : ByteArray := prog_1_method_22_code
def y_Lw_keep : MethodName := ⟨R_Lw, "keep", "(LLimbWorks$Natural;LLimbWorks$Natural;)I"⟩
abbrev q_Lw_keep : Cond := .code y_Lw_keep b_Lw_keep 2 (some (.int))
set_option maxRecDepth 20000 in
theorem kq_Lw_keep : q_Lw_keep ∈ wA := inT 221 rfl rfl
abbrev b_Na_putSame : ByteArray := prog_3_method_5_code
def y_Na_putSame : MethodName := ⟨R_Na, "putSame", "(LLimbWorks$Natural;)V"⟩
abbrev q_Na_putSame : Cond := .code y_Na_putSame b_Na_putSame 2 none
set_option maxRecDepth 20000 in
theorem kq_Na_putSame : q_Na_putSame ∈ wA := inT 225 rfl rfl
abbrev b_La_shift : ByteArray := method_5_code
def y_La_shift : MethodName := ⟨R_La, "shift", "(LLimbWorks;III[J)I"⟩
abbrev q_La_shift : Cond := .codeWith y_La_shift b_La_shift 6 (some (.int)) [(0, 12, 15, 13), (0, 12, 19, 23)]
set_option maxRecDepth 20000 in
theorem kq_La_shift : q_La_shift ∈ wA := inT 231 rfl rfl
abbrev b_Lw_shift : ByteArray := prog_1_method_4_code
def y_Lw_shift : MethodName := ⟨R_Lw, "shift", "(III)I"⟩
abbrev q_Lw_shift : Cond := .code y_Lw_shift b_Lw_shift 6 (some (.int))
set_option maxRecDepth 20000 in
theorem kq_Lw_shift : q_Lw_shift ∈ wA := inT 236 rfl rfl
abbrev b_Lw_refuseBeyond : ByteArray := prog_1_method_21_code
def y_Lw_refuseBeyond : MethodName := ⟨R_Lw, "refuseBeyond", "(II)V"⟩
abbrev q_Lw_refuseBeyond : Cond := .code y_Lw_refuseBeyond b_Lw_refuseBeyond 2 none
set_option maxRecDepth 20000 in
theorem kq_Lw_refuseBeyond : q_Lw_refuseBeyond ∈ wA := inT 241 rfl rfl
abbrev b_Na_putMoved : ByteArray := prog_3_method_9_code
def y_Na_putMoved : MethodName := ⟨R_Na, "putMoved", "(LLimbWorks$Natural;I)V"⟩
abbrev q_Na_putMoved : Cond := .code y_Na_putMoved b_Na_putMoved 3 none
set_option maxRecDepth 20000 in
theorem kq_Na_putMoved : q_Na_putMoved ∈ wA := inT 260 rfl rfl
abbrev b_Na_moveUp : ByteArray := prog_3_method_10_code
def y_Na_moveUp : MethodName := ⟨R_Na, "moveUp", "(LLimbWorks$Natural;II)V"⟩
abbrev q_Na_moveUp : Cond := .code y_Na_moveUp b_Na_moveUp 8 none
set_option maxRecDepth 20000 in
theorem kq_Na_moveUp : q_Na_moveUp ∈ wA := inT 264 rfl rfl
abbrev b_Ja_fill : ByteArray := prog_24_method_104_code
def y_Ja_fill : MethodName := ⟨R_Ja, "fill", "([IIII)V"⟩
abbrev q_Ja_fill : Cond := .code y_Ja_fill b_Ja_fill 5 none
set_option maxRecDepth 20000 in
theorem kq_Ja_fill : q_Ja_fill ∈ wA := inT 267 rfl rfl
abbrev b_Ja_rangeCheck : ByteArray := prog_24_method_30_code
def y_Ja_rangeCheck : MethodName := ⟨R_Ja, "rangeCheck", "(III)V"⟩
abbrev q_Ja_rangeCheck : Cond := .code y_Ja_rangeCheck b_Ja_rangeCheck 3 none
set_option maxRecDepth 20000 in
theorem kq_Ja_rangeCheck : q_Ja_rangeCheck ∈ wA := inT 270 rfl rfl
abbrev b_Na_moveDown : ByteArray := prog_3_method_11_code
def y_Na_moveDown : MethodName := ⟨R_Na, "moveDown", "(LLimbWorks$Natural;II)V"⟩
abbrev q_Na_moveDown : Cond := .code y_Na_moveDown b_Na_moveDown 8 none
set_option maxRecDepth 20000 in
theorem kq_Na_moveDown : q_Na_moveDown ∈ wA := inT 525 rfl rfl
abbrev b_La_add : ByteArray := method_6_code
def y_La_add : MethodName := ⟨R_La, "add", "(LLimbWorks;III[J)I"⟩
abbrev q_La_add : Cond := .codeWith y_La_add b_La_add 6 (some (.int)) [(0, 12, 15, 13), (0, 12, 19, 23)]
set_option maxRecDepth 20000 in
theorem kq_La_add : q_La_add ∈ wA := inT 529 rfl rfl
abbrev b_Lw_add : ByteArray := prog_1_method_5_code
def y_Lw_add : MethodName := ⟨R_Lw, "add", "(III)I"⟩
abbrev q_Lw_add : Cond := .code y_Lw_add b_Lw_add 5 (some (.int))
set_option maxRecDepth 20000 in
theorem kq_Lw_add : q_Lw_add ∈ wA := inT 533 rfl rfl
abbrev b_Na_putSum : ByteArray := prog_3_method_7_code
def y_Na_putSum : MethodName := ⟨R_Na, "putSum", "(LLimbWorks$Natural;LLimbWorks$Natural;)V"⟩
abbrev q_Na_putSum : Cond := .code y_Na_putSum b_Na_putSum 10 none
set_option maxRecDepth 20000 in
theorem kq_Na_putSum : q_Na_putSum ∈ wA := inT 537 rfl rfl
abbrev b_La_subtract : ByteArray := method_7_code
def y_La_subtract : MethodName := ⟨R_La, "subtract", "(LLimbWorks;III[J)I"⟩
abbrev q_La_subtract : Cond := .codeWith y_La_subtract b_La_subtract 6 (some (.int)) [(0, 12, 15, 13), (0, 12, 19, 31)]
set_option maxRecDepth 20000 in
theorem kq_La_subtract : q_La_subtract ∈ wA := inT 541 rfl rfl
abbrev b_Lw_subtract : ByteArray := prog_1_method_6_code
def y_Lw_subtract : MethodName := ⟨R_Lw, "subtract", "(III)I"⟩
abbrev q_Lw_subtract : Cond := .code y_Lw_subtract b_Lw_subtract 7 (some (.int))
set_option maxRecDepth 20000 in
theorem kq_Lw_subtract : q_Lw_subtract ∈ wA := inT 546 rfl rfl
abbrev b_Na_order : ByteArray := prog_3_method_6_code
def y_Na_order : MethodName := ⟨R_Na, "order", "(LLimbWorks$Natural;)I"⟩
abbrev q_Na_order : Cond := .code y_Na_order b_Na_order 3 (some (.int))
set_option maxRecDepth 20000 in
theorem kq_Na_order : q_Na_order ∈ wA := inT 550 rfl rfl
abbrev b_Na_putDifference : ByteArray := prog_3_method_8_code
def y_Na_putDifference : MethodName := ⟨R_Na, "putDifference", "(LLimbWorks$Natural;LLimbWorks$Natural;)V"⟩
abbrev q_Na_putDifference : Cond := .code y_Na_putDifference b_Na_putDifference 8 none
set_option maxRecDepth 20000 in
theorem kq_Na_putDifference : q_Na_putDifference ∈ wA := inT 569 rfl rfl
abbrev b_La_times : ByteArray := method_8_code
def y_La_times : MethodName := ⟨R_La, "times", "(LLimbWorks;III[J)I"⟩
abbrev q_La_times : Cond := .codeWith y_La_times b_La_times 6 (some (.int)) [(0, 12, 15, 13), (0, 12, 19, 23)]
set_option maxRecDepth 20000 in
theorem kq_La_times : q_La_times ∈ wA := inT 572 rfl rfl
abbrev b_Lw_times : ByteArray := prog_1_method_7_code
def y_Lw_times : MethodName := ⟨R_Lw, "times", "(III)I"⟩
abbrev q_Lw_times : Cond := .code y_Lw_times b_Lw_times 7 (some (.int))
set_option maxRecDepth 20000 in
theorem kq_Lw_times : q_Lw_times ∈ wA := inT 576 rfl rfl
abbrev b_Be_putProduct : ByteArray := prog_2_method_2_code
def y_Be_putProduct : MethodName := ⟨R_Be, "putProduct", "(LLimbWorks$Natural;LLimbWorks$Natural;LLimbWorks$Natural;)V"⟩
abbrev q_Be_putProduct : Cond := .code y_Be_putProduct b_Be_putProduct 8 none
set_option maxRecDepth 20000 in
theorem kq_Be_putProduct : q_Be_putProduct ∈ wA := inT 580 rfl rfl
abbrev b_Be_multiply : ByteArray := prog_2_method_6_code
def y_Be_multiply : MethodName := ⟨R_Be, "multiply", "(IIIIIII)V"⟩
abbrev q_Be_multiply : Cond := .code y_Be_multiply b_Be_multiply 10 none
set_option maxRecDepth 20000 in
theorem kq_Be_multiply : q_Be_multiply ∈ wA := inT 585 rfl rfl
abbrev b_Be_squarePlain : ByteArray := prog_2_method_8_code
def y_Be_squarePlain : MethodName := ⟨R_Be, "squarePlain", "(III)V"⟩
abbrev q_Be_squarePlain : Cond := .code y_Be_squarePlain b_Be_squarePlain 12 none
set_option maxRecDepth 20000 in
theorem kq_Be_squarePlain : q_Be_squarePlain ∈ wA := inT 591 rfl rfl
abbrev b_Be_addProduct : ByteArray := prog_2_method_18_code
def y_Be_addProduct : MethodName := ⟨R_Be, "addProduct", "(IIIJ)I"⟩
abbrev q_Be_addProduct : Cond := .code y_Be_addProduct b_Be_addProduct 12 (some (.int))
set_option maxRecDepth 20000 in
theorem kq_Be_addProduct : q_Be_addProduct ∈ wA := inT 597 rfl rfl
abbrev b_Be_multiplyPlain : ByteArray := prog_2_method_7_code
def y_Be_multiplyPlain : MethodName := ⟨R_Be, "multiplyPlain", "(IIIII)V"⟩
abbrev q_Be_multiplyPlain : Cond := .code y_Be_multiplyPlain b_Be_multiplyPlain 7 none
set_option maxRecDepth 20000 in
theorem kq_Be_multiplyPlain : q_Be_multiplyPlain ∈ wA := inT 601 rfl rfl
abbrev b_Be_multiplyTwice : ByteArray := prog_2_method_9_code
def y_Be_multiplyTwice : MethodName := ⟨R_Be, "multiplyTwice", "(IIIIIII)V"⟩
abbrev q_Be_multiplyTwice : Cond := .code y_Be_multiplyTwice b_Be_multiplyTwice 10 none
set_option maxRecDepth 20000 in
theorem kq_Be_multiplyTwice : q_Be_multiplyTwice ∈ wA := inT 605 rfl rfl
abbrev b_Be_addInto : ByteArray := prog_2_method_20_code
def y_Be_addInto : MethodName := ⟨R_Be, "addInto", "(IIII)I"⟩
abbrev q_Be_addInto : Cond := .code y_Be_addInto b_Be_addInto 11 (some (.int))
set_option maxRecDepth 20000 in
theorem kq_Be_addInto : q_Be_addInto ∈ wA := inT 609 rfl rfl
abbrev b_Be_multiplyThrice : ByteArray := prog_2_method_10_code
def y_Be_multiplyThrice : MethodName := ⟨R_Be, "multiplyThrice", "(IIIIIII)V"⟩
abbrev q_Be_multiplyThrice : Cond := .code y_Be_multiplyThrice b_Be_multiplyThrice 15 none
set_option maxRecDepth 20000 in
theorem kq_Be_multiplyThrice : q_Be_multiplyThrice ∈ wA := inT 613 rfl rfl
abbrev b_Be_layDifference : ByteArray := prog_2_method_11_code
def y_Be_layDifference : MethodName := ⟨R_Be, "layDifference", "(IIII)Z"⟩
abbrev q_Be_layDifference : Cond := .code y_Be_layDifference b_Be_layDifference 11 (some (.boolean))
set_option maxRecDepth 20000 in
theorem kq_Be_layDifference : q_Be_layDifference ∈ wA := inT 617 rfl rfl
abbrev b_Be_takeFrom : ByteArray := prog_2_method_21_code
def y_Be_takeFrom : MethodName := ⟨R_Be, "takeFrom", "(IIII)I"⟩
abbrev q_Be_takeFrom : Cond := .code y_Be_takeFrom b_Be_takeFrom 11 (some (.int))
set_option maxRecDepth 20000 in
theorem kq_Be_takeFrom : q_Be_takeFrom ∈ wA := inT 621 rfl rfl
abbrev b_La_divide : ByteArray := method_9_code
def y_La_divide : MethodName := ⟨R_La, "divide", "(LLimbWorks;IIII[J)I"⟩
abbrev q_La_divide : Cond := .codeWith y_La_divide b_La_divide 7 (some (.int)) [(0, 14, 17, 13), (0, 14, 21, 31)]
set_option maxRecDepth 20000 in
theorem kq_La_divide : q_La_divide ∈ wA := inT 625 rfl rfl
abbrev b_Lw_divide : ByteArray := prog_1_method_8_code
def y_Lw_divide : MethodName := ⟨R_Lw, "divide", "(IIII)I"⟩
abbrev q_Lw_divide : Cond := .code y_Lw_divide b_Lw_divide 9 (some (.int))
set_option maxRecDepth 20000 in
theorem kq_Lw_divide : q_Lw_divide ∈ wA := inT 629 rfl rfl
abbrev b_Be_putQuotient : ByteArray := prog_2_method_4_code
def y_Be_putQuotient : MethodName := ⟨R_Be, "putQuotient", "(LLimbWorks$Natural;LLimbWorks$Natural;LLimbWorks$Natural;LLimbWorks$Natural;)I"⟩
abbrev q_Be_putQuotient : Cond := .code y_Be_putQuotient b_Be_putQuotient 13 (some (.int))
set_option maxRecDepth 20000 in
theorem kq_Be_putQuotient : q_Be_putQuotient ∈ wA := inT 633 rfl rfl
abbrev b_Be_layMoved : ByteArray := prog_2_method_5_code
def y_Be_layMoved : MethodName := ⟨R_Be, "layMoved", "(ILLimbWorks$Natural;I)V"⟩
abbrev q_Be_layMoved : Cond := .code y_Be_layMoved b_Be_layMoved 7 none
set_option maxRecDepth 20000 in
theorem kq_Be_layMoved : q_Be_layMoved ∈ wA := inT 638 rfl rfl
abbrev b_Be_divideRun : ByteArray := prog_2_method_12_code
def y_Be_divideRun : MethodName := ⟨R_Be, "divideRun", "(IIIIIII)I"⟩
abbrev q_Be_divideRun : Cond := .code y_Be_divideRun b_Be_divideRun 10 (some (.int))
set_option maxRecDepth 20000 in
theorem kq_Be_divideRun : q_Be_divideRun ∈ wA := inT 642 rfl rfl
abbrev b_Be_dividePlain : ByteArray := prog_2_method_14_code
def y_Be_dividePlain : MethodName := ⟨R_Be, "dividePlain", "(IIIII)I"⟩
abbrev q_Be_dividePlain : Cond := .code y_Be_dividePlain b_Be_dividePlain 12 (some (.int))
set_option maxRecDepth 20000 in
theorem kq_Be_dividePlain : q_Be_dividePlain ∈ wA := inT 646 rfl rfl
abbrev b_Be_isNotLess : ByteArray := prog_2_method_17_code
def y_Be_isNotLess : MethodName := ⟨R_Be, "isNotLess", "(III)Z"⟩
abbrev q_Be_isNotLess : Cond := .code y_Be_isNotLess b_Be_isNotLess 5 (some (.boolean))
set_option maxRecDepth 20000 in
theorem kq_Be_isNotLess : q_Be_isNotLess ∈ wA := inT 650 rfl rfl
abbrev b_Be_guessWord : ByteArray := prog_2_method_15_code
def y_Be_guessWord : MethodName := ⟨R_Be, "guessWord", "(III)J"⟩
abbrev q_Be_guessWord : Cond := .code y_Be_guessWord b_Be_guessWord 16 (some (.long))
set_option maxRecDepth 20000 in
theorem kq_Be_guessWord : q_Be_guessWord ∈ wA := inT 654 rfl rfl
abbrev b_Be_shareOf : ByteArray := prog_2_method_16_code
def y_Be_shareOf : MethodName := ⟨R_Be, "shareOf", "(JJ)J"⟩
abbrev q_Be_shareOf : Cond := .code y_Be_shareOf b_Be_shareOf 6 (some (.long))
set_option maxRecDepth 20000 in
theorem kq_Be_shareOf : q_Be_shareOf ∈ wA := inT 657 rfl rfl
abbrev b_Be_takeProduct : ByteArray := prog_2_method_19_code
def y_Be_takeProduct : MethodName := ⟨R_Be, "takeProduct", "(IIIJ)J"⟩
abbrev q_Be_takeProduct : Cond := .code y_Be_takeProduct b_Be_takeProduct 14 (some (.long))
set_option maxRecDepth 20000 in
theorem kq_Be_takeProduct : q_Be_takeProduct ∈ wA := inT 661 rfl rfl
abbrev b_Be_divideByHead : ByteArray := prog_2_method_13_code
def y_Be_divideByHead : MethodName := ⟨R_Be, "divideByHead", "(IIIIIII)I"⟩
abbrev q_Be_divideByHead : Cond := .code y_Be_divideByHead b_Be_divideByHead 12 (some (.int))
set_option maxRecDepth 20000 in
theorem kq_Be_divideByHead : q_Be_divideByHead ∈ wA := inT 665 rfl rfl
abbrev b_Be_takeOne : ByteArray := prog_2_method_22_code
def y_Be_takeOne : MethodName := ⟨R_Be, "takeOne", "(II)I"⟩
abbrev q_Be_takeOne : Cond := .code y_Be_takeOne b_Be_takeOne 4 (some (.int))
set_option maxRecDepth 20000 in
theorem kq_Be_takeOne : q_Be_takeOne ∈ wA := inT 669 rfl rfl
abbrev b_La_power : ByteArray := method_10_code
def y_La_power : MethodName := ⟨R_La, "power", "(LLimbWorks;III[J)I"⟩
abbrev q_La_power : Cond := .codeWith y_La_power b_La_power 6 (some (.int)) [(0, 12, 15, 13), (0, 12, 19, 23)]
set_option maxRecDepth 20000 in
theorem kq_La_power : q_La_power ∈ wA := inT 673 rfl rfl
abbrev b_Lw_power : ByteArray := prog_1_method_9_code
def y_Lw_power : MethodName := ⟨R_Lw, "power", "(III)I"⟩
abbrev q_Lw_power : Cond := .code y_Lw_power b_Lw_power 6 (some (.int))
set_option maxRecDepth 20000 in
theorem kq_Lw_power : q_Lw_power ∈ wA := inT 677 rfl rfl
abbrev b_Be_putPower : ByteArray := prog_2_method_3_code
def y_Be_putPower : MethodName := ⟨R_Be, "putPower", "(LLimbWorks$Natural;LLimbWorks$Natural;I)V"⟩
abbrev q_Be_putPower : Cond := .code y_Be_putPower b_Be_putPower 5 none
set_option maxRecDepth 20000 in
theorem kq_Be_putPower : q_Be_putPower ∈ wA := inT 681 rfl rfl
abbrev b_La_root : ByteArray := method_11_code
def y_La_root : MethodName := ⟨R_La, "root", "(LLimbWorks;III[J)I"⟩
abbrev q_La_root : Cond := .codeWith y_La_root b_La_root 6 (some (.int)) [(0, 12, 15, 13)]
set_option maxRecDepth 20000 in
theorem kq_La_root : q_La_root ∈ wA := inT 688 rfl rfl
abbrev b_Lw_root : ByteArray := prog_1_method_10_code
def y_Lw_root : MethodName := ⟨R_Lw, "root", "(III)I"⟩
abbrev q_Lw_root : Cond := .code y_Lw_root b_Lw_root 6 (some (.int))
set_option maxRecDepth 20000 in
theorem kq_Lw_root : q_Lw_root ∈ wA := inT 692 rfl rfl
abbrev b_Ro_putRoot : ByteArray := prog_4_method_2_code
def y_Ro_putRoot : MethodName := ⟨R_Ro, "putRoot", "(LLimbWorks$Natural;LLimbWorks$Natural;ILLimbWorks$Bench;)V"⟩
abbrev q_Ro_putRoot : Cond := .code y_Ro_putRoot b_Ro_putRoot 10 none
set_option maxRecDepth 20000 in
theorem kq_Ro_putRoot : q_Ro_putRoot ∈ wA := inT 696 rfl rfl
abbrev b_Ro_nextLength : ByteArray := prog_4_method_3_code
def y_Ro_nextLength : MethodName := ⟨R_Ro, "nextLength", "(III)I"⟩
abbrev q_Ro_nextLength : Cond := .code y_Ro_nextLength b_Ro_nextLength 7 (some (.int))
set_option maxRecDepth 20000 in
theorem kq_Ro_nextLength : q_Ro_nextLength ∈ wA := inT 702 rfl rfl
abbrev b_Ro_layStep : ByteArray := prog_4_method_4_code
def y_Ro_layStep : MethodName := ⟨R_Ro, "layStep", "(LLimbWorks$Natural;III)V"⟩
abbrev q_Ro_layStep : Cond := .code y_Ro_layStep b_Ro_layStep 5 none
set_option maxRecDepth 20000 in
theorem kq_Ro_layStep : q_Ro_layStep ∈ wA := inT 709 rfl rfl
abbrev b_Na_scale : ByteArray := prog_3_method_14_code
def y_Na_scale : MethodName := ⟨R_Na, "scale", "(II)V"⟩
abbrev q_Na_scale : Cond := .code y_Na_scale b_Na_scale 6 none
set_option maxRecDepth 20000 in
theorem kq_Na_scale : q_Na_scale ∈ wA := inT 715 rfl rfl
abbrev b_Ro_lengthen : ByteArray := prog_4_method_5_code
def y_Ro_lengthen : MethodName := ⟨R_Ro, "lengthen", "(LLimbWorks$Natural;I)V"⟩
abbrev q_Ro_lengthen : Cond := .code y_Ro_lengthen b_Ro_lengthen 3 none
set_option maxRecDepth 20000 in
theorem kq_Ro_lengthen : q_Ro_lengthen ∈ wA := inT 720 rfl rfl
abbrev b_Na_putOnes : ByteArray := prog_3_method_12_code
def y_Na_putOnes : MethodName := ⟨R_Na, "putOnes", "(I)V"⟩
abbrev q_Na_putOnes : Cond := .code y_Na_putOnes b_Na_putOnes 3 none
set_option maxRecDepth 20000 in
theorem kq_Na_putOnes : q_Na_putOnes ∈ wA := inT 724 rfl rfl
abbrev b_Ro_lowerToFit : ByteArray := prog_4_method_6_code
def y_Ro_lowerToFit : MethodName := ⟨R_Ro, "lowerToFit", "(LLimbWorks$Natural;ILLimbWorks$Bench;)V"⟩
abbrev q_Ro_lowerToFit : Cond := .code y_Ro_lowerToFit b_Ro_lowerToFit 6 none
set_option maxRecDepth 20000 in
theorem kq_Ro_lowerToFit : q_Ro_lowerToFit ∈ wA := inT 729 rfl rfl
abbrev b_Na_takeOne : ByteArray := prog_3_method_13_code
def y_Na_takeOne : MethodName := ⟨R_Na, "takeOne", "()V"⟩
abbrev q_Na_takeOne : Cond := .code y_Na_takeOne b_Na_takeOne 3 none
set_option maxRecDepth 20000 in
theorem kq_Na_takeOne : q_Na_takeOne ∈ wA := inT 736 rfl rfl
abbrev b_La_compare : ByteArray := method_12_code
def y_La_compare : MethodName := ⟨R_La, "compare", "(LLimbWorks;II[J)I"⟩
abbrev q_La_compare : Cond := .codeWith y_La_compare b_La_compare 5 (some (.int)) [(0, 10, 13, 13)]
set_option maxRecDepth 20000 in
theorem kq_La_compare : q_La_compare ∈ wA := inT 739 rfl rfl
abbrev b_Lw_compare : ByteArray := prog_1_method_11_code
def y_Lw_compare : MethodName := ⟨R_Lw, "compare", "(II)I"⟩
abbrev q_Lw_compare : Cond := .code y_Lw_compare b_Lw_compare 3 (some (.int))
set_option maxRecDepth 20000 in
theorem kq_Lw_compare : q_Lw_compare ∈ wA := inT 743 rfl rfl
abbrev b_La_bits : ByteArray := method_13_code
def y_La_bits : MethodName := ⟨R_La, "bits", "(LLimbWorks;I[J)I"⟩
abbrev q_La_bits : Cond := .codeWith y_La_bits b_La_bits 4 (some (.int)) [(0, 9, 12, 13)]
set_option maxRecDepth 20000 in
theorem kq_La_bits : q_La_bits ∈ wA := inT 746 rfl rfl
abbrev b_Lw_bits : ByteArray := prog_1_method_12_code
def y_Lw_bits : MethodName := ⟨R_Lw, "bits", "(I)I"⟩
abbrev q_Lw_bits : Cond := .code y_Lw_bits b_Lw_bits 2 (some (.int))
set_option maxRecDepth 20000 in
theorem kq_Lw_bits : q_Lw_bits ∈ wA := inT 750 rfl rfl
abbrev b_La_word : ByteArray := method_14_code
def y_La_word : MethodName := ⟨R_La, "word", "(LLimbWorks;II[J)I"⟩
abbrev q_La_word : Cond := .codeWith y_La_word b_La_word 5 (some (.int)) [(0, 9, 12, 13)]
set_option maxRecDepth 20000 in
theorem kq_La_word : q_La_word ∈ wA := inT 753 rfl rfl
abbrev b_Lw_word : ByteArray := prog_1_method_13_code
def y_Lw_word : MethodName := ⟨R_Lw, "word", "(II)J"⟩
abbrev q_Lw_word : Cond := .code y_Lw_word b_Lw_word 4 (some (.long))
set_option maxRecDepth 20000 in
theorem kq_Lw_word : q_Lw_word ∈ wA := inT 757 rfl rfl
abbrev b_La_feed : ByteArray := method_15_code
def y_La_feed : MethodName := ⟨R_La, "feed", "(LLimbWorks;IIIII)I"⟩
abbrev q_La_feed : Cond := .codeWith y_La_feed b_La_feed 7 (some (.int)) [(0, 11, 14, 23)]
set_option maxRecDepth 20000 in
theorem kq_La_feed : q_La_feed ∈ wA := inT 761 rfl rfl
abbrev b_Lw_feed : ByteArray := prog_1_method_14_code
def y_Lw_feed : MethodName := ⟨R_Lw, "feed", "(IIIII)V"⟩
abbrev q_Lw_feed : Cond := .code y_Lw_feed b_Lw_feed 6 none
set_option maxRecDepth 20000 in
theorem kq_Lw_feed : q_Lw_feed ∈ wA := inT 765 rfl rfl
abbrev b_Lw_feedWord : ByteArray := prog_1_method_24_code
def y_Lw_feedWord : MethodName := ⟨R_Lw, "feedWord", "(I)V"⟩
abbrev q_Lw_feedWord : Cond := .code y_Lw_feedWord b_Lw_feedWord 3 none
set_option maxRecDepth 20000 in
theorem kq_Lw_feedWord : q_Lw_feedWord ∈ wA := inT 769 rfl rfl
abbrev b_La_end : ByteArray := method_16_code
def y_La_end : MethodName := ⟨R_La, "end", "(LLimbWorks;I[J)I"⟩
abbrev q_La_end : Cond := .codeWith y_La_end b_La_end 4 (some (.int)) [(0, 9, 12, 13)]
set_option maxRecDepth 20000 in
theorem kq_La_end : q_La_end ∈ wA := inT 772 rfl rfl
abbrev b_Lw_end : ByteArray := prog_1_method_15_code
def y_Lw_end : MethodName := ⟨R_Lw, "end", "(I)I"⟩
abbrev q_Lw_end : Cond := .code y_Lw_end b_Lw_end 3 (some (.int))
set_option maxRecDepth 20000 in
theorem kq_Lw_end : q_Lw_end ∈ wA := inT 776 rfl rfl
abbrev b_La_read : ByteArray := method_17_code
def y_La_read : MethodName := ⟨R_La, "read", "(LLimbWorks;II[J)I"⟩
abbrev q_La_read : Cond := .codeWith y_La_read b_La_read 5 (some (.int)) [(0, 10, 13, 13), (0, 10, 17, 67)]
set_option maxRecDepth 20000 in
theorem kq_La_read : q_La_read ∈ wA := inT 779 rfl rfl
abbrev b_Lw_read : ByteArray := prog_1_method_16_code
def y_Lw_read : MethodName := ⟨R_Lw, "read", "(II)I"⟩
abbrev q_Lw_read : Cond := .code y_Lw_read b_Lw_read 5 (some (.int))
set_option maxRecDepth 20000 in
theorem kq_Lw_read : q_Lw_read ∈ wA := inT 784 rfl rfl
abbrev b_Lw_hasDigitsAlone : ByteArray := prog_1_method_25_code
def y_Lw_hasDigitsAlone : MethodName := ⟨R_Lw, "hasDigitsAlone", "(II)Z"⟩
abbrev q_Lw_hasDigitsAlone : Cond := .code y_Lw_hasDigitsAlone b_Lw_hasDigitsAlone 4 (some (.boolean))
set_option maxRecDepth 20000 in
theorem kq_Lw_hasDigitsAlone : q_Lw_hasDigitsAlone ∈ wA := inT 788 rfl rfl
abbrev b_Lw_digitOf : ByteArray := prog_1_method_26_code
def y_Lw_digitOf : MethodName := ⟨R_Lw, "digitOf", "(I)I"⟩
abbrev q_Lw_digitOf : Cond := .code y_Lw_digitOf b_Lw_digitOf 1 (some (.int))
set_option maxRecDepth 20000 in
theorem kq_Lw_digitOf : q_Lw_digitOf ∈ wA := inT 791 rfl rfl
abbrev b_Lw_readDigits : ByteArray := prog_1_method_27_code
def y_Lw_readDigits : MethodName := ⟨R_Lw, "readDigits", "(II)V"⟩
abbrev q_Lw_readDigits : Cond := .code y_Lw_readDigits b_Lw_readDigits 8 none
set_option maxRecDepth 20000 in
theorem kq_Lw_readDigits : q_Lw_readDigits ∈ wA := inT 810 rfl rfl
abbrev b_Lw_digitsOfPiece : ByteArray := prog_1_method_28_code
def y_Lw_digitsOfPiece : MethodName := ⟨R_Lw, "digitsOfPiece", "(I)I"⟩
abbrev q_Lw_digitsOfPiece : Cond := .code y_Lw_digitsOfPiece b_Lw_digitsOfPiece 4 (some (.int))
set_option maxRecDepth 20000 in
theorem kq_Lw_digitsOfPiece : q_Lw_digitsOfPiece ∈ wA := inT 813 rfl rfl
abbrev b_Lw_powerOf : ByteArray := prog_1_method_29_code
def y_Lw_powerOf : MethodName := ⟨R_Lw, "powerOf", "(II)I"⟩
abbrev q_Lw_powerOf : Cond := .code y_Lw_powerOf b_Lw_powerOf 4 (some (.int))
set_option maxRecDepth 20000 in
theorem kq_Lw_powerOf : q_Lw_powerOf ∈ wA := inT 818 rfl rfl
abbrev b_La_write : ByteArray := method_18_code
def y_La_write : MethodName := ⟨R_La, "write", "(LLimbWorks;II[J)I"⟩
abbrev q_La_write : Cond := .codeWith y_La_write b_La_write 5 (some (.int)) [(0, 10, 13, 13), (0, 10, 17, 23)]
set_option maxRecDepth 20000 in
theorem kq_La_write : q_La_write ∈ wA := inT 822 rfl rfl
abbrev b_Lw_write : ByteArray := prog_1_method_17_code
def y_Lw_write : MethodName := ⟨R_Lw, "write", "(II)I"⟩
abbrev q_Lw_write : Cond := .code y_Lw_write b_Lw_write 7 (some (.int))
set_option maxRecDepth 20000 in
theorem kq_Lw_write : q_Lw_write ∈ wA := inT 826 rfl rfl
abbrev b_Lw_cutIntoPieces : ByteArray := prog_1_method_30_code
def y_Lw_cutIntoPieces : MethodName := ⟨R_Lw, "cutIntoPieces", "(LLimbWorks$Natural;I)I"⟩
abbrev q_Lw_cutIntoPieces : Cond := .code y_Lw_cutIntoPieces b_Lw_cutIntoPieces 4 (some (.int))
set_option maxRecDepth 20000 in
theorem kq_Lw_cutIntoPieces : q_Lw_cutIntoPieces ∈ wA := inT 831 rfl rfl
abbrev b_Na_reduce : ByteArray := prog_3_method_15_code
def y_Na_reduce : MethodName := ⟨R_Na, "reduce", "(I)I"⟩
abbrev q_Na_reduce : Cond := .code y_Na_reduce b_Na_reduce 10 (some (.int))
set_option maxRecDepth 20000 in
theorem kq_Na_reduce : q_Na_reduce ∈ wA := inT 835 rfl rfl
abbrev b_Lw_countDigits : ByteArray := prog_1_method_31_code
def y_Lw_countDigits : MethodName := ⟨R_Lw, "countDigits", "(III)I"⟩
abbrev q_Lw_countDigits : Cond := .code y_Lw_countDigits b_Lw_countDigits 7 (some (.int))
set_option maxRecDepth 20000 in
theorem kq_Lw_countDigits : q_Lw_countDigits ∈ wA := inT 839 rfl rfl
abbrev b_Lw_writeDigits : ByteArray := prog_1_method_32_code
def y_Lw_writeDigits : MethodName := ⟨R_Lw, "writeDigits", "(III)V"⟩
abbrev q_Lw_writeDigits : Cond := .code y_Lw_writeDigits b_Lw_writeDigits 7 none
set_option maxRecDepth 20000 in
theorem kq_Lw_writeDigits : q_Lw_writeDigits ∈ wA := inT 843 rfl rfl
abbrev b_La_octet : ByteArray := method_19_code
def y_La_octet : MethodName := ⟨R_La, "octet", "(LLimbWorks;I[J)I"⟩
abbrev q_La_octet : Cond := .codeWith y_La_octet b_La_octet 4 (some (.int)) [(0, 9, 12, 75)]
set_option maxRecDepth 20000 in
theorem kq_La_octet : q_La_octet ∈ wA := inT 846 rfl rfl
abbrev b_Lw_octet : ByteArray := prog_1_method_18_code
def y_Lw_octet : MethodName := ⟨R_Lw, "octet", "(I)I"⟩
abbrev q_Lw_octet : Cond := .code y_Lw_octet b_Lw_octet 2 (some (.int))
set_option maxRecDepth 20000 in
theorem kq_Lw_octet : q_Lw_octet ∈ wA := inT 851 rfl rfl
abbrev b_Mo_init : ByteArray := prog_6_method_1_code
def y_Mo_init : MethodName := ⟨R_Mo, "<init>", "()V"⟩
abbrev q_Mo_init : Cond := .code y_Mo_init b_Mo_init 2 none
set_option maxRecDepth 20000 in
theorem kq_Mo_init : q_Mo_init ∈ wA := inT 871 rfl rfl
abbrev b_Mn_init : ByteArray := prog_7_method_1_code
def y_Mn_init : MethodName := ⟨R_Mn, "<init>", "(I)V"⟩
abbrev q_Mn_init : Cond := .code y_Mn_init b_Mn_init 2 none
set_option maxRecDepth 20000 in
theorem kq_Mn_init : q_Mn_init ∈ wA := inT 878 rfl rfl
abbrev b_Mo_thrown : ByteArray := prog_6_method_29_code
def y_Mo_thrown : MethodName := ⟨R_Mo, "thrown", "()I"⟩
abbrev q_Mo_thrown : Cond := .code y_Mo_thrown b_Mo_thrown 1 (some (.int))
set_option maxRecDepth 20000 in
theorem kq_Mo_thrown : q_Mo_thrown ∈ wA := inT 938 rfl rfl
abbrev b_Mo_set : ByteArray := prog_6_method_30_code
def y_Mo_set : MethodName := ⟨R_Mo, "set", "(IJ)I"⟩
abbrev q_Mo_set : Cond := .codeWith y_Mo_set b_Mo_set 5 (some (.int)) [(5, 11, 12, 53)]
set_option maxRecDepth 20000 in
theorem kq_Mo_set : q_Mo_set ∈ wA := inT 942 rfl rfl
abbrev b_Mo_set0 : ByteArray := prog_6_method_7_code
def y_Mo_set0 : MethodName := ⟨R_Mo, "set0", "(IJ)I"⟩
abbrev q_Mo_set0 : Cond := .code y_Mo_set0 b_Mo_set0 4 (some (.int))
set_option maxRecDepth 20000 in
theorem kq_Mo_set0 : q_Mo_set0 ∈ wA := inT 947 rfl rfl
abbrev b_Mo_named : ByteArray := prog_6_method_4_code
def y_Mo_named : MethodName := ⟨R_Mo, "named", "(I)V"⟩
abbrev q_Mo_named : Cond := .code y_Mo_named b_Mo_named 1 none
set_option maxRecDepth 20000 in
theorem kq_Mo_named : q_Mo_named ∈ wA := inT 950 rfl rfl
abbrev b_Mo_in : ByteArray := prog_6_method_3_code
def y_Mo_in : MethodName := ⟨R_Mo, "in", "(III)Z"⟩
abbrev q_Mo_in : Cond := .code y_Mo_in b_Mo_in 3 (some (.boolean))
set_option maxRecDepth 20000 in
theorem kq_Mo_in : q_Mo_in ∈ wA := inT 953 rfl rfl
abbrev b_Mo_check : ByteArray := prog_6_method_2_code
def y_Mo_check : MethodName := ⟨R_Mo, "check", "(Z)V"⟩
abbrev q_Mo_check : Cond := .code y_Mo_check b_Mo_check 1 none
set_option maxRecDepth 20000 in
theorem kq_Mo_check : q_Mo_check ∈ wA := inT 956 rfl rfl
abbrev b_Mn_set_J : ByteArray := prog_7_method_3_code
def y_Mn_set_J : MethodName := ⟨R_Mn, "set", "(J)V"⟩
abbrev q_Mn_set_J : Cond := .code y_Mn_set_J b_Mn_set_J 5 none
set_option maxRecDepth 20000 in
theorem kq_Mn_set_J : q_Mn_set_J ∈ wA := inT 961 rfl rfl
abbrev b_Mo_keep : ByteArray := prog_6_method_6_code
def y_Mo_keep : MethodName := ⟨R_Mo, "keep", "(ILLimbWorksModel$Nat;)I"⟩
abbrev q_Mo_keep : Cond := .code y_Mo_keep b_Mo_keep 3 (some (.int))
set_option maxRecDepth 20000 in
theorem kq_Mo_keep : q_Mo_keep ∈ wA := inT 966 rfl rfl
abbrev b_Mn_set_N : ByteArray := prog_7_method_2_code
def y_Mn_set_N : MethodName := ⟨R_Mn, "set", "(LLimbWorksModel$Nat;)V"⟩
abbrev q_Mn_set_N : Cond := .code y_Mn_set_N b_Mn_set_N 2 none
set_option maxRecDepth 20000 in
theorem kq_Mn_set_N : q_Mn_set_N ∈ wA := inT 970 rfl rfl
abbrev b_Mn_bits : ByteArray := prog_7_method_5_code
def y_Mn_bits : MethodName := ⟨R_Mn, "bits", "()I"⟩
abbrev q_Mn_bits : Cond := .code y_Mn_bits b_Mn_bits 3 (some (.int))
set_option maxRecDepth 20000 in
theorem kq_Mn_bits : q_Mn_bits ∈ wA := inT 975 rfl rfl
abbrev b_Mo_copy : ByteArray := prog_6_method_31_code
def y_Mo_copy : MethodName := ⟨R_Mo, "copy", "(II)I"⟩
abbrev q_Mo_copy : Cond := .codeWith y_Mo_copy b_Mo_copy 4 (some (.int)) [(5, 11, 12, 53)]
set_option maxRecDepth 20000 in
theorem kq_Mo_copy : q_Mo_copy ∈ wA := inT 979 rfl rfl
abbrev b_Mo_copy0 : ByteArray := prog_6_method_8_code
def y_Mo_copy0 : MethodName := ⟨R_Mo, "copy0", "(II)I"⟩
abbrev q_Mo_copy0 : Cond := .code y_Mo_copy0 b_Mo_copy0 3 (some (.int))
set_option maxRecDepth 20000 in
theorem kq_Mo_copy0 : q_Mo_copy0 ∈ wA := inT 983 rfl rfl
abbrev b_Mo_shift : ByteArray := prog_6_method_32_code
def y_Mo_shift : MethodName := ⟨R_Mo, "shift", "(III)I"⟩
abbrev q_Mo_shift : Cond := .codeWith y_Mo_shift b_Mo_shift 5 (some (.int)) [(5, 12, 13, 53), (5, 12, 23, 66)]
set_option maxRecDepth 20000 in
theorem kq_Mo_shift : q_Mo_shift ∈ wA := inT 987 rfl rfl
abbrev b_Mo_shift0 : ByteArray := prog_6_method_9_code
def y_Mo_shift0 : MethodName := ⟨R_Mo, "shift0", "(III)I"⟩
abbrev q_Mo_shift0 : Cond := .code y_Mo_shift0 b_Mo_shift0 4 (some (.int))
set_option maxRecDepth 20000 in
theorem kq_Mo_shift0 : q_Mo_shift0 ∈ wA := inT 992 rfl rfl
abbrev b_Mo_fits : ByteArray := prog_6_method_5_code
def y_Mo_fits : MethodName := ⟨R_Mo, "fits", "(J)V"⟩
abbrev q_Mo_fits : Cond := .code y_Mo_fits b_Mo_fits 2 none
set_option maxRecDepth 20000 in
theorem kq_Mo_fits : q_Mo_fits ∈ wA := inT 997 rfl rfl
abbrev b_Mn_up : ByteArray := prog_7_method_15_code
def y_Mn_up : MethodName := ⟨R_Mn, "up", "(I)V"⟩
abbrev q_Mn_up : Cond := .code y_Mn_up b_Mn_up 7 none
set_option maxRecDepth 20000 in
theorem kq_Mn_up : q_Mn_up ∈ wA := inT 1003 rfl rfl
abbrev b_Mn_trim : ByteArray := prog_7_method_4_code
def y_Mn_trim : MethodName := ⟨R_Mn, "trim", "(I)V"⟩
abbrev q_Mn_trim : Cond := .code y_Mn_trim b_Mn_trim 2 none
set_option maxRecDepth 20000 in
theorem kq_Mn_trim : q_Mn_trim ∈ wA := inT 1007 rfl rfl
abbrev b_Mn_down : ByteArray := prog_7_method_16_code
def y_Mn_down : MethodName := ⟨R_Mn, "down", "(I)V"⟩
abbrev q_Mn_down : Cond := .code y_Mn_down b_Mn_down 7 none
set_option maxRecDepth 20000 in
theorem kq_Mn_down : q_Mn_down ∈ wA := inT 1011 rfl rfl
abbrev b_Mo_add : ByteArray := prog_6_method_33_code
def y_Mo_add : MethodName := ⟨R_Mo, "add", "(III)I"⟩
abbrev q_Mo_add : Cond := .codeWith y_Mo_add b_Mo_add 5 (some (.int)) [(5, 12, 13, 53), (5, 12, 23, 66)]
set_option maxRecDepth 20000 in
theorem kq_Mo_add : q_Mo_add ∈ wA := inT 1015 rfl rfl
abbrev b_Mo_add0 : ByteArray := prog_6_method_10_code
def y_Mo_add0 : MethodName := ⟨R_Mo, "add0", "(III)I"⟩
abbrev q_Mo_add0 : Cond := .code y_Mo_add0 b_Mo_add0 4 (some (.int))
set_option maxRecDepth 20000 in
theorem kq_Mo_add0 : q_Mo_add0 ∈ wA := inT 1019 rfl rfl
abbrev b_Mn_add_N : ByteArray := prog_7_method_9_code
def y_Mn_add_N : MethodName := ⟨R_Mn, "add", "(LLimbWorksModel$Nat;)V"⟩
abbrev q_Mn_add_N : Cond := .code y_Mn_add_N b_Mn_add_N 6 none
set_option maxRecDepth 20000 in
theorem kq_Mn_add_N : q_Mn_add_N ∈ wA := inT 1023 rfl rfl
abbrev b_Mo_subtract : ByteArray := prog_6_method_34_code
def y_Mo_subtract : MethodName := ⟨R_Mo, "subtract", "(III)I"⟩
abbrev q_Mo_subtract : Cond := .codeWith y_Mo_subtract b_Mo_subtract 5 (some (.int)) [(5, 12, 13, 53), (5, 12, 23, 109)]
set_option maxRecDepth 20000 in
theorem kq_Mo_subtract : q_Mo_subtract ∈ wA := inT 1028 rfl rfl
abbrev b_Mo_subtract0 : ByteArray := prog_6_method_11_code
def y_Mo_subtract0 : MethodName := ⟨R_Mo, "subtract0", "(III)I"⟩
abbrev q_Mo_subtract0 : Cond := .code y_Mo_subtract0 b_Mo_subtract0 4 (some (.int))
set_option maxRecDepth 20000 in
theorem kq_Mo_subtract0 : q_Mo_subtract0 ∈ wA := inT 1033 rfl rfl
abbrev b_Mn_compare : ByteArray := prog_7_method_8_code
def y_Mn_compare : MethodName := ⟨R_Mn, "compare", "(LLimbWorksModel$Nat;)I"⟩
abbrev q_Mn_compare : Cond := .code y_Mn_compare b_Mn_compare 3 (some (.int))
set_option maxRecDepth 20000 in
theorem kq_Mn_compare : q_Mn_compare ∈ wA := inT 1037 rfl rfl
abbrev b_Mn_less : ByteArray := prog_7_method_11_code
def y_Mn_less : MethodName := ⟨R_Mn, "less", "(LLimbWorksModel$Nat;)V"⟩
abbrev q_Mn_less : Cond := .code y_Mn_less b_Mn_less 5 none
set_option maxRecDepth 20000 in
theorem kq_Mn_less : q_Mn_less ∈ wA := inT 1042 rfl rfl
abbrev b_Mo_times : ByteArray := prog_6_method_35_code
def y_Mo_times : MethodName := ⟨R_Mo, "times", "(III)I"⟩
abbrev q_Mo_times : Cond := .codeWith y_Mo_times b_Mo_times 5 (some (.int)) [(5, 12, 13, 53), (5, 12, 23, 66)]
set_option maxRecDepth 20000 in
theorem kq_Mo_times : q_Mo_times ∈ wA := inT 1046 rfl rfl
abbrev b_Mo_times0 : ByteArray := prog_6_method_12_code
def y_Mo_times0 : MethodName := ⟨R_Mo, "times0", "(III)I"⟩
abbrev q_Mo_times0 : Cond := .code y_Mo_times0 b_Mo_times0 4 (some (.int))
set_option maxRecDepth 20000 in
theorem kq_Mo_times0 : q_Mo_times0 ∈ wA := inT 1050 rfl rfl
abbrev b_Mn_product : ByteArray := prog_7_method_14_code
def y_Mn_product : MethodName := ⟨R_Mn, "product", "(LLimbWorksModel$Nat;LLimbWorksModel$Nat;)V"⟩
abbrev q_Mn_product : Cond := .code y_Mn_product b_Mn_product 11 none
set_option maxRecDepth 20000 in
theorem kq_Mn_product : q_Mn_product ∈ wA := inT 1054 rfl rfl
abbrev b_Mo_divide_IIII : ByteArray := prog_6_method_36_code
def y_Mo_divide_IIII : MethodName := ⟨R_Mo, "divide", "(IIII)I"⟩
abbrev q_Mo_divide_IIII : Cond := .codeWith y_Mo_divide_IIII b_Mo_divide_IIII 6 (some (.int)) [(5, 14, 15, 53), (5, 14, 25, 109)]
set_option maxRecDepth 20000 in
theorem kq_Mo_divide_IIII : q_Mo_divide_IIII ∈ wA := inT 1059 rfl rfl
abbrev b_Mo_divide0 : ByteArray := prog_6_method_15_code
def y_Mo_divide0 : MethodName := ⟨R_Mo, "divide0", "(IIII)I"⟩
abbrev q_Mo_divide0 : Cond := .code y_Mo_divide0 b_Mo_divide0 6 (some (.int))
set_option maxRecDepth 20000 in
theorem kq_Mo_divide0 : q_Mo_divide0 ∈ wA := inT 1063 rfl rfl
abbrev b_Mo_divide_NNN : ByteArray := prog_6_method_13_code
def y_Mo_divide_NNN : MethodName := ⟨R_Mo, "divide", "(LLimbWorksModel$Nat;LLimbWorksModel$Nat;LLimbWorksModel$Nat;)V"⟩
abbrev q_Mo_divide_NNN : Cond := .code y_Mo_divide_NNN b_Mo_divide_NNN 12 none
set_option maxRecDepth 20000 in
theorem kq_Mo_divide_NNN : q_Mo_divide_NNN ∈ wA := inT 1067 rfl rfl
abbrev b_Mo_takesTooMuch : ByteArray := prog_6_method_14_code
def y_Mo_takesTooMuch : MethodName := ⟨R_Mo, "takesTooMuch", "(JII)Z"⟩
abbrev q_Mo_takesTooMuch : Cond := .code y_Mo_takesTooMuch b_Mo_takesTooMuch 11 (some (.boolean))
set_option maxRecDepth 20000 in
theorem kq_Mo_takesTooMuch : q_Mo_takesTooMuch ∈ wA := inT 1073 rfl rfl
abbrev b_Mo_power : ByteArray := prog_6_method_37_code
def y_Mo_power : MethodName := ⟨R_Mo, "power", "(III)I"⟩
abbrev q_Mo_power : Cond := .codeWith y_Mo_power b_Mo_power 5 (some (.int)) [(5, 12, 13, 53), (5, 12, 23, 66)]
set_option maxRecDepth 20000 in
theorem kq_Mo_power : q_Mo_power ∈ wA := inT 1079 rfl rfl
abbrev b_Mo_power0 : ByteArray := prog_6_method_16_code
def y_Mo_power0 : MethodName := ⟨R_Mo, "power0", "(III)I"⟩
abbrev q_Mo_power0 : Cond := .code y_Mo_power0 b_Mo_power0 4 (some (.int))
set_option maxRecDepth 20000 in
theorem kq_Mo_power0 : q_Mo_power0 ∈ wA := inT 1083 rfl rfl
abbrev b_Mo_raise : ByteArray := prog_6_method_18_code
def y_Mo_raise : MethodName := ⟨R_Mo, "raise", "(LLimbWorksModel$Nat;I)V"⟩
abbrev q_Mo_raise : Cond := .code y_Mo_raise b_Mo_raise 4 none
set_option maxRecDepth 20000 in
theorem kq_Mo_raise : q_Mo_raise ∈ wA := inT 1087 rfl rfl
abbrev b_Mo_root : ByteArray := prog_6_method_38_code
def y_Mo_root : MethodName := ⟨R_Mo, "root", "(III)I"⟩
abbrev q_Mo_root : Cond := .codeWith y_Mo_root b_Mo_root 5 (some (.int)) [(5, 12, 13, 53)]
set_option maxRecDepth 20000 in
theorem kq_Mo_root : q_Mo_root ∈ wA := inT 1095 rfl rfl
abbrev b_Mo_root0 : ByteArray := prog_6_method_19_code
def y_Mo_root0 : MethodName := ⟨R_Mo, "root0", "(III)I"⟩
abbrev q_Mo_root0 : Cond := .code y_Mo_root0 b_Mo_root0 4 (some (.int))
set_option maxRecDepth 20000 in
theorem kq_Mo_root0 : q_Mo_root0 ∈ wA := inT 1099 rfl rfl
abbrev b_Mo_rootOf : ByteArray := prog_6_method_17_code
def y_Mo_rootOf : MethodName := ⟨R_Mo, "rootOf", "(I)Z"⟩
abbrev q_Mo_rootOf : Cond := .code y_Mo_rootOf b_Mo_rootOf 3 (some (.boolean))
set_option maxRecDepth 20000 in
theorem kq_Mo_rootOf : q_Mo_rootOf ∈ wA := inT 1103 rfl rfl
abbrev b_Mn_one : ByteArray := prog_7_method_17_code
def y_Mn_one : MethodName := ⟨R_Mn, "one", "(I)V"⟩
abbrev q_Mn_one : Cond := .code y_Mn_one b_Mn_one 2 none
set_option maxRecDepth 20000 in
theorem kq_Mn_one : q_Mn_one ∈ wA := inT 1107 rfl rfl
abbrev b_Mn_times : ByteArray := prog_7_method_12_code
def y_Mn_times : MethodName := ⟨R_Mn, "times", "(I)V"⟩
abbrev q_Mn_times : Cond := .code y_Mn_times b_Mn_times 7 none
set_option maxRecDepth 20000 in
theorem kq_Mn_times : q_Mn_times ∈ wA := inT 1111 rfl rfl
abbrev b_Mn_over : ByteArray := prog_7_method_13_code
def y_Mn_over : MethodName := ⟨R_Mn, "over", "(I)I"⟩
abbrev q_Mn_over : Cond := .code y_Mn_over b_Mn_over 7 (some (.int))
set_option maxRecDepth 20000 in
theorem kq_Mn_over : q_Mn_over ∈ wA := inT 1115 rfl rfl
abbrev b_Mo_compare : ByteArray := prog_6_method_39_code
def y_Mo_compare : MethodName := ⟨R_Mo, "compare", "(II)I"⟩
abbrev q_Mo_compare : Cond := .codeWith y_Mo_compare b_Mo_compare 4 (some (.int)) [(5, 11, 12, 53)]
set_option maxRecDepth 20000 in
theorem kq_Mo_compare : q_Mo_compare ∈ wA := inT 1119 rfl rfl
abbrev b_Mo_compare0 : ByteArray := prog_6_method_20_code
def y_Mo_compare0 : MethodName := ⟨R_Mo, "compare0", "(II)I"⟩
abbrev q_Mo_compare0 : Cond := .code y_Mo_compare0 b_Mo_compare0 3 (some (.int))
set_option maxRecDepth 20000 in
theorem kq_Mo_compare0 : q_Mo_compare0 ∈ wA := inT 1123 rfl rfl
abbrev b_Mo_bits : ByteArray := prog_6_method_40_code
def y_Mo_bits : MethodName := ⟨R_Mo, "bits", "(I)I"⟩
abbrev q_Mo_bits : Cond := .codeWith y_Mo_bits b_Mo_bits 3 (some (.int)) [(5, 10, 11, 53)]
set_option maxRecDepth 20000 in
theorem kq_Mo_bits : q_Mo_bits ∈ wA := inT 1127 rfl rfl
abbrev b_Mo_bits0 : ByteArray := prog_6_method_21_code
def y_Mo_bits0 : MethodName := ⟨R_Mo, "bits0", "(I)I"⟩
abbrev q_Mo_bits0 : Cond := .code y_Mo_bits0 b_Mo_bits0 2 (some (.int))
set_option maxRecDepth 20000 in
theorem kq_Mo_bits0 : q_Mo_bits0 ∈ wA := inT 1131 rfl rfl
abbrev b_Mo_word : ByteArray := prog_6_method_41_code
def y_Mo_word : MethodName := ⟨R_Mo, "word", "(II)J"⟩
abbrev q_Mo_word : Cond := .codeWith y_Mo_word b_Mo_word 4 (some (.long)) [(5, 11, 12, 53)]
set_option maxRecDepth 20000 in
theorem kq_Mo_word : q_Mo_word ∈ wA := inT 1135 rfl rfl
abbrev b_Mo_word0 : ByteArray := prog_6_method_22_code
def y_Mo_word0 : MethodName := ⟨R_Mo, "word0", "(II)J"⟩
abbrev q_Mo_word0 : Cond := .code y_Mo_word0 b_Mo_word0 6 (some (.long))
set_option maxRecDepth 20000 in
theorem kq_Mo_word0 : q_Mo_word0 ∈ wA := inT 1139 rfl rfl
abbrev b_Mn_bit : ByteArray := prog_7_method_6_code
def y_Mn_bit : MethodName := ⟨R_Mn, "bit", "(I)Z"⟩
abbrev q_Mn_bit : Cond := .code y_Mn_bit b_Mn_bit 2 (some (.boolean))
set_option maxRecDepth 20000 in
theorem kq_Mn_bit : q_Mn_bit ∈ wA := inT 1144 rfl rfl
abbrev b_Mo_feed : ByteArray := prog_6_method_42_code
def y_Mo_feed : MethodName := ⟨R_Mo, "feed", "(IIIII)V"⟩
abbrev q_Mo_feed : Cond := .codeWith y_Mo_feed b_Mo_feed 7 none [(5, 16, 19, 66)]
set_option maxRecDepth 20000 in
theorem kq_Mo_feed : q_Mo_feed ∈ wA := inT 1148 rfl rfl
abbrev b_Mo_feed0 : ByteArray := prog_6_method_23_code
def y_Mo_feed0 : MethodName := ⟨R_Mo, "feed0", "(IIIII)V"⟩
abbrev q_Mo_feed0 : Cond := .code y_Mo_feed0 b_Mo_feed0 8 none
set_option maxRecDepth 20000 in
theorem kq_Mo_feed0 : q_Mo_feed0 ∈ wA := inT 1152 rfl rfl
abbrev b_Mo_end : ByteArray := prog_6_method_43_code
def y_Mo_end : MethodName := ⟨R_Mo, "end", "(I)I"⟩
abbrev q_Mo_end : Cond := .codeWith y_Mo_end b_Mo_end 3 (some (.int)) [(5, 10, 11, 53)]
set_option maxRecDepth 20000 in
theorem kq_Mo_end : q_Mo_end ∈ wA := inT 1156 rfl rfl
abbrev b_Mo_end0 : ByteArray := prog_6_method_24_code
def y_Mo_end0 : MethodName := ⟨R_Mo, "end0", "(I)I"⟩
abbrev q_Mo_end0 : Cond := .code y_Mo_end0 b_Mo_end0 3 (some (.int))
set_option maxRecDepth 20000 in
theorem kq_Mo_end0 : q_Mo_end0 ∈ wA := inT 1160 rfl rfl
abbrev b_Mo_read : ByteArray := prog_6_method_44_code
def y_Mo_read : MethodName := ⟨R_Mo, "read", "(II)I"⟩
abbrev q_Mo_read : Cond := .codeWith y_Mo_read b_Mo_read 4 (some (.int)) [(5, 11, 12, 53), (5, 11, 21, 172)]
set_option maxRecDepth 20000 in
theorem kq_Mo_read : q_Mo_read ∈ wA := inT 1164 rfl rfl
abbrev b_Mo_read0 : ByteArray := prog_6_method_26_code
def y_Mo_read0 : MethodName := ⟨R_Mo, "read0", "(II)I"⟩
abbrev q_Mo_read0 : Cond := .code y_Mo_read0 b_Mo_read0 6 (some (.int))
set_option maxRecDepth 20000 in
theorem kq_Mo_read0 : q_Mo_read0 ∈ wA := inT 1169 rfl rfl
abbrev b_Mo_digit : ByteArray := prog_6_method_25_code
def y_Mo_digit : MethodName := ⟨R_Mo, "digit", "(II)I"⟩
abbrev q_Mo_digit : Cond := .code y_Mo_digit b_Mo_digit 3 (some (.int))
set_option maxRecDepth 20000 in
theorem kq_Mo_digit : q_Mo_digit ∈ wA := inT 1172 rfl rfl
abbrev b_Mn_add_I : ByteArray := prog_7_method_10_code
def y_Mn_add_I : MethodName := ⟨R_Mn, "add", "(I)V"⟩
abbrev q_Mn_add_I : Cond := .code y_Mn_add_I b_Mn_add_I 5 none
set_option maxRecDepth 20000 in
theorem kq_Mn_add_I : q_Mn_add_I ∈ wA := inT 1177 rfl rfl
abbrev b_Mo_write : ByteArray := prog_6_method_45_code
def y_Mo_write : MethodName := ⟨R_Mo, "write", "(II)I"⟩
abbrev q_Mo_write : Cond := .codeWith y_Mo_write b_Mo_write 4 (some (.int)) [(5, 11, 12, 53), (5, 11, 21, 66)]
set_option maxRecDepth 20000 in
theorem kq_Mo_write : q_Mo_write ∈ wA := inT 1181 rfl rfl
abbrev b_Mo_write0 : ByteArray := prog_6_method_27_code
def y_Mo_write0 : MethodName := ⟨R_Mo, "write0", "(II)I"⟩
abbrev q_Mo_write0 : Cond := .code y_Mo_write0 b_Mo_write0 6 (some (.int))
set_option maxRecDepth 20000 in
theorem kq_Mo_write0 : q_Mo_write0 ∈ wA := inT 1185 rfl rfl
abbrev b_Mo_octet : ByteArray := prog_6_method_46_code
def y_Mo_octet : MethodName := ⟨R_Mo, "octet", "(I)I"⟩
abbrev q_Mo_octet : Cond := .codeWith y_Mo_octet b_Mo_octet 3 (some (.int)) [(5, 10, 11, 180)]
set_option maxRecDepth 20000 in
theorem kq_Mo_octet : q_Mo_octet ∈ wA := inT 1189 rfl rfl
abbrev b_Mo_octet0 : ByteArray := prog_6_method_28_code
def y_Mo_octet0 : MethodName := ⟨R_Mo, "octet0", "(I)I"⟩
abbrev q_Mo_octet0 : Cond := .code y_Mo_octet0 b_Mo_octet0 2 (some (.int))
set_option maxRecDepth 20000 in
theorem kq_Mo_octet0 : q_Mo_octet0 ∈ wA := inT 1194 rfl rfl
end
section
/-! WORDS of the links, by class and place in its pool; words of the methods (by program) -/
theorem in_La : (.initialized R_La : Cond) ∈ wA := inT 0 (by decide +kernel) rfl
theorem in_Lw : (.initialized R_Lw : Cond) ∈ wA := inT 1 (by decide +kernel) rfl
theorem in_Na : (.initialized R_Na : Cond) ∈ wA := inT 2 (by decide +kernel) rfl
theorem in_Be : (.initialized R_Be : Cond) ∈ wA := inT 3 (by decide +kernel) rfl
theorem in_Ro : (.initialized R_Ro : Cond) ∈ wA := inT 4 (by decide +kernel) rfl
theorem in_Mo : (.initialized R_Mo : Cond) ∈ wA := inT 5 (by decide +kernel) rfl
theorem in_Mn : (.initialized R_Mn : Cond) ∈ wA := inT 6 (by decide +kernel) rfl
theorem in_Ji : (.initialized R_Ji : Cond) ∈ wA := inT 11 (by decide +kernel) rfl
theorem in_Ja : (.initialized R_Ja : Cond) ∈ wA := inT 14 (by decide +kernel) rfl
theorem lc_La_8 : (.classLink R_La 8 "LimbWorks" : Cond) ∈ wA := inT 26 (by decide +kernel) rfl
theorem it_Lw : (.instantiable R_Lw 9 : Cond) ∈ wA := inT 27 (by decide +kernel) rfl
theorem lm_La_77 : (.methodLink R_La 77 y_Lw_init : Cond) ∈ wA := inT 28 (by decide +kernel) rfl
theorem im_Lw_init : (.instanceMethod y_Lw_init : Cond) ∈ wA := inT 29 (by decide +kernel) rfl
theorem lm_Lw_1 : (.methodLink R_Lw 1 objectInit : Cond) ∈ wA := inT 31 (by decide +kernel) rfl
theorem lc_Lw_9 : (.classLink R_Lw 9 "LimbWorks$Natural" : Cond) ∈ wA := inT 34 (by decide +kernel) rfl
theorem it_Na : (.instantiable R_Na 2 : Cond) ∈ wA := inT 36 (by decide +kernel) rfl
theorem im_Na_init : (.instanceMethod y_Na_init : Cond) ∈ wA := inT 38 (by decide +kernel) rfl
theorem lm_Na_3 : (.methodLink R_Na 3 objectInit : Cond) ∈ wA := inT 40 (by decide +kernel) rfl
theorem lf_Na_9 : (.fieldLink R_Na 9 "LimbWorks$Natural" "words" "[I" : Cond) ∈ wA := inT 41 (by decide +kernel) rfl
theorem lf_Be_21 : (.fieldLink R_Be 21 "LimbWorks$Natural" "words" "[I" : Cond) ∈ wA := inT 42 (by decide +kernel) rfl
theorem lf_Lw_115 : (.fieldLink R_Lw 115 "LimbWorks$Natural" "words" "[I" : Cond) ∈ wA := inT 43 (by decide +kernel) rfl
theorem lf_Na_15 : (.fieldLink R_Na 15 "LimbWorks$Natural" "length" "I" : Cond) ∈ wA := inT 44 (by decide +kernel) rfl
theorem lf_Be_15 : (.fieldLink R_Be 15 "LimbWorks$Natural" "length" "I" : Cond) ∈ wA := inT 45 (by decide +kernel) rfl
theorem lf_Lw_100 : (.fieldLink R_Lw 100 "LimbWorks$Natural" "length" "I" : Cond) ∈ wA := inT 46 (by decide +kernel) rfl
theorem ac_int : (.arrayClass .int : Cond) ∈ wA := inT 52 (by decide +kernel) rfl
theorem lc_Lw_20 : (.classLink R_Lw 20 "LimbWorks$Bench" : Cond) ∈ wA := inT 53 (by decide +kernel) rfl
theorem it_Be : (.instantiable R_Be 1 : Cond) ∈ wA := inT 54 (by decide +kernel) rfl
theorem im_Be_init : (.instanceMethod y_Be_init : Cond) ∈ wA := inT 56 (by decide +kernel) rfl
theorem lm_Be_3 : (.methodLink R_Be 3 objectInit : Cond) ∈ wA := inT 58 (by decide +kernel) rfl
theorem lf_Be_11 : (.fieldLink R_Be 11 "LimbWorks$Bench" "row" "[I" : Cond) ∈ wA := inT 59 (by decide +kernel) rfl
theorem lc_Lw_27 : (.classLink R_Lw 27 "LimbWorks$Roots" : Cond) ∈ wA := inT 63 (by decide +kernel) rfl
theorem it_Ro : (.instantiable R_Ro 3 : Cond) ∈ wA := inT 64 (by decide +kernel) rfl
theorem im_Ro_init : (.instanceMethod y_Ro_init : Cond) ∈ wA := inT 66 (by decide +kernel) rfl
theorem lm_Ro_1 : (.methodLink R_Ro 1 objectInit : Cond) ∈ wA := inT 68 (by decide +kernel) rfl
theorem lc_Ro_7 : (.classLink R_Ro 7 "LimbWorks$Natural" : Cond) ∈ wA := inT 69 (by decide +kernel) rfl
theorem lf_Ro_10 : (.fieldLink R_Ro 10 "LimbWorks$Roots" "lesser" "LLimbWorks$Natural;" : Cond) ∈ wA := inT 71 (by decide +kernel) rfl
theorem lf_Ro_16 : (.fieldLink R_Ro 16 "LimbWorks$Roots" "whole" "LLimbWorks$Natural;" : Cond) ∈ wA := inT 72 (by decide +kernel) rfl
theorem lf_Ro_19 : (.fieldLink R_Ro 19 "LimbWorks$Roots" "part" "LLimbWorks$Natural;" : Cond) ∈ wA := inT 73 (by decide +kernel) rfl
theorem lf_Lw_11 : (.fieldLink R_Lw 11 "LimbWorks" "registers" "[LLimbWorks$Natural;" : Cond) ∈ wA := inT 81 (by decide +kernel) rfl
theorem lf_Lw_16 : (.fieldLink R_Lw 16 "LimbWorks" "spare" "LLimbWorks$Natural;" : Cond) ∈ wA := inT 82 (by decide +kernel) rfl
theorem lf_Lw_23 : (.fieldLink R_Lw 23 "LimbWorks" "bench" "LLimbWorks$Bench;" : Cond) ∈ wA := inT 83 (by decide +kernel) rfl
theorem lf_Lw_30 : (.fieldLink R_Lw 30 "LimbWorks" "roots" "LLimbWorks$Roots;" : Cond) ∈ wA := inT 84 (by decide +kernel) rfl
theorem lf_Lw_34 : (.fieldLink R_Lw 34 "LimbWorks" "pieces" "[I" : Cond) ∈ wA := inT 85 (by decide +kernel) rfl
theorem lf_Lw_38 : (.fieldLink R_Lw 38 "LimbWorks" "tape" "[B" : Cond) ∈ wA := inT 86 (by decide +kernel) rfl
theorem lf_Lw_42 : (.fieldLink R_Lw 42 "LimbWorks" "out" "[B" : Cond) ∈ wA := inT 87 (by decide +kernel) rfl
theorem lf_Lw_45 : (.fieldLink R_Lw 45 "LimbWorks" "tapeLength" "I" : Cond) ∈ wA := inT 88 (by decide +kernel) rfl
theorem lf_Lw_49 : (.fieldLink R_Lw 49 "LimbWorks" "outLength" "I" : Cond) ∈ wA := inT 89 (by decide +kernel) rfl
theorem ac_byte : (.arrayClass .byte : Cond) ∈ wA := inT 109 (by decide +kernel) rfl
theorem lm_La_83 : (.methodLink R_La 83 y_La_set : Cond) ∈ wA := inT 110 (by decide +kernel) rfl
theorem st_La_set : (.static y_La_set : Cond) ∈ wA := inT 111 (by decide +kernel) rfl
theorem lc_La_13 : (.classLink R_La 13 "java/lang/IllegalArgumentException" : Cond) ∈ wA := inT 113 (by decide +kernel) rfl
theorem lm_La_7 : (.methodLink R_La 7 y_Lw_set : Cond) ∈ wA := inT 114 (by decide +kernel) rfl
theorem im_Lw_set : (.instanceMethod y_Lw_set : Cond) ∈ wA := inT 115 (by decide +kernel) rfl
theorem se_Lw_set : (.selects R_Lw y_Lw_set y_Lw_set : Cond) ∈ wA := inT 116 (by decide +kernel) rfl
theorem lm_Lw_52 : (.methodLink R_Lw 52 y_Lw_registerAt : Cond) ∈ wA := inT 118 (by decide +kernel) rfl
theorem im_Lw_registerAt : (.instanceMethod y_Lw_registerAt : Cond) ∈ wA := inT 120 (by decide +kernel) rfl
theorem lm_Lw_70 : (.methodLink R_Lw 70 y_Lw_requireRange : Cond) ∈ wA := inT 122 (by decide +kernel) rfl
theorem st_Lw_requireRange : (.static y_Lw_requireRange : Cond) ∈ wA := inT 123 (by decide +kernel) rfl
theorem lc_Lw_159 : (.classLink R_Lw 159 "java/lang/IllegalArgumentException" : Cond) ∈ wA := inT 125 (by decide +kernel) rfl
theorem lm_Lw_161 : (.methodLink R_Lw 161 ⟨"java/lang/IllegalArgumentException", "<init>", "()V"⟩ : Cond) ∈ wA := inT 168 (by decide +kernel) rfl
theorem lm_Lw_56 : (.methodLink R_Lw 56 y_Na_putLong : Cond) ∈ wA := inT 191 (by decide +kernel) rfl
theorem im_Na_putLong : (.instanceMethod y_Na_putLong : Cond) ∈ wA := inT 192 (by decide +kernel) rfl
theorem se_Na_putLong : (.selects R_Na y_Na_putLong y_Na_putLong : Cond) ∈ wA := inT 193 (by decide +kernel) rfl
theorem lm_Na_23 : (.methodLink R_Na 23 y_Na_trim : Cond) ∈ wA := inT 195 (by decide +kernel) rfl
theorem im_Na_trim : (.instanceMethod y_Na_trim : Cond) ∈ wA := inT 196 (by decide +kernel) rfl
theorem se_Na_trim : (.selects R_Na y_Na_trim y_Na_trim : Cond) ∈ wA := inT 197 (by decide +kernel) rfl
theorem lm_Lw_60 : (.methodLink R_Lw 60 y_Na_countBits : Cond) ∈ wA := inT 199 (by decide +kernel) rfl
theorem im_Na_countBits : (.instanceMethod y_Na_countBits : Cond) ∈ wA := inT 200 (by decide +kernel) rfl
theorem se_Na_countBits : (.selects R_Na y_Na_countBits y_Na_countBits : Cond) ∈ wA := inT 201 (by decide +kernel) rfl
theorem st_Lw_bitsOf : (.static y_Lw_bitsOf : Cond) ∈ wA := inT 204 (by decide +kernel) rfl
theorem lm_Lw_169 : (.methodLink R_Lw 169 y_Ji_bitCount : Cond) ∈ wA := inT 206 (by decide +kernel) rfl
theorem st_Ji_bitCount : (.static y_Ji_bitCount : Cond) ∈ wA := inT 207 (by decide +kernel) rfl
theorem lk_Ji_265 : (.constant R_Ji 265 (1431655765 : Int32) : Cond) ∈ wA := inT 209 (by decide +kernel) rfl
theorem lk_Ji_266 : (.constant R_Ji 266 (858993459 : Int32) : Cond) ∈ wA := inT 210 (by decide +kernel) rfl
theorem lk_Ji_267 : (.constant R_Ji 267 (252645135 : Int32) : Cond) ∈ wA := inT 211 (by decide +kernel) rfl
theorem lm_La_93 : (.methodLink R_La 93 y_La_copy : Cond) ∈ wA := inT 212 (by decide +kernel) rfl
theorem st_La_copy : (.static y_La_copy : Cond) ∈ wA := inT 213 (by decide +kernel) rfl
theorem lm_La_15 : (.methodLink R_La 15 y_Lw_copy : Cond) ∈ wA := inT 215 (by decide +kernel) rfl
theorem im_Lw_copy : (.instanceMethod y_Lw_copy : Cond) ∈ wA := inT 216 (by decide +kernel) rfl
theorem se_Lw_copy : (.selects R_Lw y_Lw_copy y_Lw_copy : Cond) ∈ wA := inT 217 (by decide +kernel) rfl
theorem lm_Lw_64 : (.methodLink R_Lw 64 y_Lw_keep : Cond) ∈ wA := inT 219 (by decide +kernel) rfl
theorem st_Lw_keep : (.static y_Lw_keep : Cond) ∈ wA := inT 220 (by decide +kernel) rfl
theorem lm_Lw_165 : (.methodLink R_Lw 165 y_Na_putSame : Cond) ∈ wA := inT 222 (by decide +kernel) rfl
theorem im_Na_putSame : (.instanceMethod y_Na_putSame : Cond) ∈ wA := inT 223 (by decide +kernel) rfl
theorem se_Na_putSame : (.selects R_Na y_Na_putSame y_Na_putSame : Cond) ∈ wA := inT 224 (by decide +kernel) rfl
theorem lm_Na_27 : (.methodLink R_Na 27 arraycopyName : Cond) ∈ wA := inT 226 (by decide +kernel) rfl
theorem lm_La_97 : (.methodLink R_La 97 y_La_shift : Cond) ∈ wA := inT 229 (by decide +kernel) rfl
theorem st_La_shift : (.static y_La_shift : Cond) ∈ wA := inT 230 (by decide +kernel) rfl
theorem lc_La_23 : (.classLink R_La 23 "java/lang/IllegalStateException" : Cond) ∈ wA := inT 232 (by decide +kernel) rfl
theorem lm_La_19 : (.methodLink R_La 19 y_Lw_shift : Cond) ∈ wA := inT 233 (by decide +kernel) rfl
theorem im_Lw_shift : (.instanceMethod y_Lw_shift : Cond) ∈ wA := inT 234 (by decide +kernel) rfl
theorem se_Lw_shift : (.selects R_Lw y_Lw_shift y_Lw_shift : Cond) ∈ wA := inT 235 (by decide +kernel) rfl
theorem lk_Lw_68 : (.constant R_Lw 68 (-200000 : Int32) : Cond) ∈ wA := inT 237 (by decide +kernel) rfl
theorem lk_Lw_69 : (.constant R_Lw 69 (200000 : Int32) : Cond) ∈ wA := inT 238 (by decide +kernel) rfl
theorem lm_Lw_74 : (.methodLink R_Lw 74 y_Lw_refuseBeyond : Cond) ∈ wA := inT 239 (by decide +kernel) rfl
theorem st_Lw_refuseBeyond : (.static y_Lw_refuseBeyond : Cond) ∈ wA := inT 240 (by decide +kernel) rfl
theorem lc_Lw_162 : (.classLink R_Lw 162 "java/lang/IllegalStateException" : Cond) ∈ wA := inT 242 (by decide +kernel) rfl
theorem lm_Lw_164 : (.methodLink R_Lw 164 ⟨"java/lang/IllegalStateException", "<init>", "()V"⟩ : Cond) ∈ wA := inT 251 (by decide +kernel) rfl
theorem lm_Lw_78 : (.methodLink R_Lw 78 y_Na_putMoved : Cond) ∈ wA := inT 257 (by decide +kernel) rfl
theorem im_Na_putMoved : (.instanceMethod y_Na_putMoved : Cond) ∈ wA := inT 258 (by decide +kernel) rfl
theorem se_Na_putMoved : (.selects R_Na y_Na_putMoved y_Na_putMoved : Cond) ∈ wA := inT 259 (by decide +kernel) rfl
theorem lm_Na_35 : (.methodLink R_Na 35 y_Na_moveUp : Cond) ∈ wA := inT 261 (by decide +kernel) rfl
theorem im_Na_moveUp : (.instanceMethod y_Na_moveUp : Cond) ∈ wA := inT 263 (by decide +kernel) rfl
theorem lm_Na_42 : (.methodLink R_Na 42 y_Ja_fill : Cond) ∈ wA := inT 265 (by decide +kernel) rfl
theorem st_Ja_fill : (.static y_Ja_fill : Cond) ∈ wA := inT 266 (by decide +kernel) rfl
theorem lm_Ja_13 : (.methodLink R_Ja 13 y_Ja_rangeCheck : Cond) ∈ wA := inT 268 (by decide +kernel) rfl
theorem st_Ja_rangeCheck : (.static y_Ja_rangeCheck : Cond) ∈ wA := inT 269 (by decide +kernel) rfl
theorem lc_Ja_43 : (.classLink R_Ja 43 "java/lang/IllegalArgumentException" : Cond) ∈ wA := inT 271 (by decide +kernel) rfl
theorem lc_Ja_45 : (.classLink R_Ja 45 "java/lang/StringBuilder" : Cond) ∈ wA := inT 272 (by decide +kernel) rfl
theorem lm_Ja_47 : (.methodLink R_Ja 47 ⟨"java/lang/StringBuilder", "<init>", "()V"⟩ : Cond) ∈ wA := inT 274 (by decide +kernel) rfl
theorem lm_Ja_50 : (.methodLink R_Ja 50 ⟨"java/lang/StringBuilder", "append", "(Ljava/lang/String;)Ljava/lang/StringBuilder;"⟩ : Cond) ∈ wA := inT 304 (by decide +kernel) rfl
theorem lm_Ja_310 : (.methodLink R_Ja 310 ⟨"[B", "clone", "()Ljava/lang/Object;"⟩ : Cond) ∈ wA := inT 337 (by decide +kernel) rfl
theorem lc_Ja_311 : (.classLink R_Ja 311 "[B" : Cond) ∈ wA := inT 343 (by decide +kernel) rfl
theorem lm_Ja_304 : (.methodLink R_Ja 304 Lib.Math.min.name : Cond) ∈ wA := inT 344 (by decide +kernel) rfl
theorem lm_Ja_150 : (.methodLink R_Ja 150 arraycopyName : Cond) ∈ wA := inT 347 (by decide +kernel) rfl
theorem lm_Ja_54 : (.methodLink R_Ja 54 ⟨"java/lang/StringBuilder", "append", "(I)Ljava/lang/StringBuilder;"⟩ : Cond) ∈ wA := inT 422 (by decide +kernel) rfl
theorem lf_Ji_83 : (.fieldLink R_Ji 83 "java/lang/Integer" "DigitOnes" "[B" : Cond) ∈ wA := inT 435 (by decide +kernel) rfl
theorem lf_Ji_87 : (.fieldLink R_Ji 87 "java/lang/Integer" "DigitTens" "[B" : Cond) ∈ wA := inT 437 (by decide +kernel) rfl
theorem lm_Ja_61 : (.methodLink R_Ja 61 ⟨"java/lang/StringBuilder", "toString", "()Ljava/lang/String;"⟩ : Cond) ∈ wA := inT 449 (by decide +kernel) rfl
theorem lm_Ja_339 : (.methodLink R_Ja 339 ⟨"java/util/Arrays", "copyOfRangeByte", "([BII)[B"⟩ : Cond) ∈ wA := inT 479 (by decide +kernel) rfl
theorem lm_Ja_343 : (.methodLink R_Ja 343 ⟨"java/util/Arrays", "checkLength", "(II)V"⟩ : Cond) ∈ wA := inT 482 (by decide +kernel) rfl
theorem lm_Ja_65 : (.methodLink R_Ja 65 ⟨"java/lang/IllegalArgumentException", "<init>", "(Ljava/lang/String;)V"⟩ : Cond) ∈ wA := inT 486 (by decide +kernel) rfl
theorem lm_Na_39 : (.methodLink R_Na 39 y_Na_moveDown : Cond) ∈ wA := inT 522 (by decide +kernel) rfl
theorem im_Na_moveDown : (.instanceMethod y_Na_moveDown : Cond) ∈ wA := inT 524 (by decide +kernel) rfl
theorem lm_Na_48 : (.methodLink R_Na 48 Lib.Math.max.name : Cond) ∈ wA := inT 526 (by decide +kernel) rfl
theorem lm_La_101 : (.methodLink R_La 101 y_La_add : Cond) ∈ wA := inT 527 (by decide +kernel) rfl
theorem st_La_add : (.static y_La_add : Cond) ∈ wA := inT 528 (by decide +kernel) rfl
theorem lm_La_25 : (.methodLink R_La 25 y_Lw_add : Cond) ∈ wA := inT 530 (by decide +kernel) rfl
theorem im_Lw_add : (.instanceMethod y_Lw_add : Cond) ∈ wA := inT 531 (by decide +kernel) rfl
theorem se_Lw_add : (.selects R_Lw y_Lw_add y_Lw_add : Cond) ∈ wA := inT 532 (by decide +kernel) rfl
theorem lm_Lw_82 : (.methodLink R_Lw 82 y_Na_putSum : Cond) ∈ wA := inT 534 (by decide +kernel) rfl
theorem im_Na_putSum : (.instanceMethod y_Na_putSum : Cond) ∈ wA := inT 535 (by decide +kernel) rfl
theorem se_Na_putSum : (.selects R_Na y_Na_putSum y_Na_putSum : Cond) ∈ wA := inT 536 (by decide +kernel) rfl
theorem ll_Na_33 : (.constantLong R_Na 33 (4294967295 : Int64) : Cond) ∈ wA := inT 538 (by decide +kernel) rfl
theorem lm_La_104 : (.methodLink R_La 104 y_La_subtract : Cond) ∈ wA := inT 539 (by decide +kernel) rfl
theorem st_La_subtract : (.static y_La_subtract : Cond) ∈ wA := inT 540 (by decide +kernel) rfl
theorem lc_La_31 : (.classLink R_La 31 "java/lang/ArithmeticException" : Cond) ∈ wA := inT 542 (by decide +kernel) rfl
theorem lm_La_28 : (.methodLink R_La 28 y_Lw_subtract : Cond) ∈ wA := inT 543 (by decide +kernel) rfl
theorem im_Lw_subtract : (.instanceMethod y_Lw_subtract : Cond) ∈ wA := inT 544 (by decide +kernel) rfl
theorem se_Lw_subtract : (.selects R_Lw y_Lw_subtract y_Lw_subtract : Cond) ∈ wA := inT 545 (by decide +kernel) rfl
theorem lm_Lw_86 : (.methodLink R_Lw 86 y_Na_order : Cond) ∈ wA := inT 547 (by decide +kernel) rfl
theorem im_Na_order : (.instanceMethod y_Na_order : Cond) ∈ wA := inT 548 (by decide +kernel) rfl
theorem se_Na_order : (.selects R_Na y_Na_order y_Na_order : Cond) ∈ wA := inT 549 (by decide +kernel) rfl
theorem lc_Lw_90 : (.classLink R_Lw 90 "java/lang/ArithmeticException" : Cond) ∈ wA := inT 551 (by decide +kernel) rfl
theorem lm_Lw_92 : (.methodLink R_Lw 92 ⟨"java/lang/ArithmeticException", "<init>", "()V"⟩ : Cond) ∈ wA := inT 560 (by decide +kernel) rfl
theorem lm_Lw_93 : (.methodLink R_Lw 93 y_Na_putDifference : Cond) ∈ wA := inT 566 (by decide +kernel) rfl
theorem im_Na_putDifference : (.instanceMethod y_Na_putDifference : Cond) ∈ wA := inT 567 (by decide +kernel) rfl
theorem se_Na_putDifference : (.selects R_Na y_Na_putDifference y_Na_putDifference : Cond) ∈ wA := inT 568 (by decide +kernel) rfl
theorem lm_La_107 : (.methodLink R_La 107 y_La_times : Cond) ∈ wA := inT 570 (by decide +kernel) rfl
theorem st_La_times : (.static y_La_times : Cond) ∈ wA := inT 571 (by decide +kernel) rfl
theorem lm_La_33 : (.methodLink R_La 33 y_Lw_times : Cond) ∈ wA := inT 573 (by decide +kernel) rfl
theorem im_Lw_times : (.instanceMethod y_Lw_times : Cond) ∈ wA := inT 574 (by decide +kernel) rfl
theorem se_Lw_times : (.selects R_Lw y_Lw_times y_Lw_times : Cond) ∈ wA := inT 575 (by decide +kernel) rfl
theorem lm_Lw_96 : (.methodLink R_Lw 96 y_Be_putProduct : Cond) ∈ wA := inT 577 (by decide +kernel) rfl
theorem im_Be_putProduct : (.instanceMethod y_Be_putProduct : Cond) ∈ wA := inT 578 (by decide +kernel) rfl
theorem se_Be_putProduct : (.selects R_Be y_Be_putProduct y_Be_putProduct : Cond) ∈ wA := inT 579 (by decide +kernel) rfl
theorem lm_Be_24 : (.methodLink R_Be 24 arraycopyName : Cond) ∈ wA := inT 581 (by decide +kernel) rfl
theorem lm_Be_30 : (.methodLink R_Be 30 y_Be_multiply : Cond) ∈ wA := inT 582 (by decide +kernel) rfl
theorem im_Be_multiply : (.instanceMethod y_Be_multiply : Cond) ∈ wA := inT 584 (by decide +kernel) rfl
theorem lm_Be_54 : (.methodLink R_Be 54 Lib.Math.max.name : Cond) ∈ wA := inT 586 (by decide +kernel) rfl
theorem lm_Be_72 : (.methodLink R_Be 72 Lib.Math.min.name : Cond) ∈ wA := inT 587 (by decide +kernel) rfl
theorem lm_Be_79 : (.methodLink R_Be 79 y_Be_squarePlain : Cond) ∈ wA := inT 588 (by decide +kernel) rfl
theorem im_Be_squarePlain : (.instanceMethod y_Be_squarePlain : Cond) ∈ wA := inT 590 (by decide +kernel) rfl
theorem lm_Be_93 : (.methodLink R_Be 93 y_Ja_fill : Cond) ∈ wA := inT 592 (by decide +kernel) rfl
theorem ll_Be_99 : (.constantLong R_Be 99 (4294967295 : Int64) : Cond) ∈ wA := inT 593 (by decide +kernel) rfl
theorem lm_Be_101 : (.methodLink R_Be 101 y_Be_addProduct : Cond) ∈ wA := inT 594 (by decide +kernel) rfl
theorem im_Be_addProduct : (.instanceMethod y_Be_addProduct : Cond) ∈ wA := inT 596 (by decide +kernel) rfl
theorem lm_Be_83 : (.methodLink R_Be 83 y_Be_multiplyPlain : Cond) ∈ wA := inT 598 (by decide +kernel) rfl
theorem im_Be_multiplyPlain : (.instanceMethod y_Be_multiplyPlain : Cond) ∈ wA := inT 600 (by decide +kernel) rfl
theorem lm_Be_87 : (.methodLink R_Be 87 y_Be_multiplyTwice : Cond) ∈ wA := inT 602 (by decide +kernel) rfl
theorem im_Be_multiplyTwice : (.instanceMethod y_Be_multiplyTwice : Cond) ∈ wA := inT 604 (by decide +kernel) rfl
theorem lm_Be_105 : (.methodLink R_Be 105 y_Be_addInto : Cond) ∈ wA := inT 606 (by decide +kernel) rfl
theorem im_Be_addInto : (.instanceMethod y_Be_addInto : Cond) ∈ wA := inT 608 (by decide +kernel) rfl
theorem lm_Be_90 : (.methodLink R_Be 90 y_Be_multiplyThrice : Cond) ∈ wA := inT 610 (by decide +kernel) rfl
theorem im_Be_multiplyThrice : (.instanceMethod y_Be_multiplyThrice : Cond) ∈ wA := inT 612 (by decide +kernel) rfl
theorem lm_Be_109 : (.methodLink R_Be 109 y_Be_layDifference : Cond) ∈ wA := inT 614 (by decide +kernel) rfl
theorem im_Be_layDifference : (.instanceMethod y_Be_layDifference : Cond) ∈ wA := inT 616 (by decide +kernel) rfl
theorem lm_Be_113 : (.methodLink R_Be 113 y_Be_takeFrom : Cond) ∈ wA := inT 618 (by decide +kernel) rfl
theorem im_Be_takeFrom : (.instanceMethod y_Be_takeFrom : Cond) ∈ wA := inT 620 (by decide +kernel) rfl
theorem lm_Be_34 : (.methodLink R_Be 34 y_Na_trim : Cond) ∈ wA := inT 622 (by decide +kernel) rfl
theorem lm_La_110 : (.methodLink R_La 110 y_La_divide : Cond) ∈ wA := inT 623 (by decide +kernel) rfl
theorem st_La_divide : (.static y_La_divide : Cond) ∈ wA := inT 624 (by decide +kernel) rfl
theorem lm_La_36 : (.methodLink R_La 36 y_Lw_divide : Cond) ∈ wA := inT 626 (by decide +kernel) rfl
theorem im_Lw_divide : (.instanceMethod y_Lw_divide : Cond) ∈ wA := inT 627 (by decide +kernel) rfl
theorem se_Lw_divide : (.selects R_Lw y_Lw_divide y_Lw_divide : Cond) ∈ wA := inT 628 (by decide +kernel) rfl
theorem lm_Lw_103 : (.methodLink R_Lw 103 y_Be_putQuotient : Cond) ∈ wA := inT 630 (by decide +kernel) rfl
theorem im_Be_putQuotient : (.instanceMethod y_Be_putQuotient : Cond) ∈ wA := inT 631 (by decide +kernel) rfl
theorem se_Be_putQuotient : (.selects R_Be y_Be_putQuotient y_Be_putQuotient : Cond) ∈ wA := inT 632 (by decide +kernel) rfl
theorem lm_Be_60 : (.methodLink R_Be 60 y_Na_countBits : Cond) ∈ wA := inT 634 (by decide +kernel) rfl
theorem lm_Be_64 : (.methodLink R_Be 64 y_Be_layMoved : Cond) ∈ wA := inT 635 (by decide +kernel) rfl
theorem im_Be_layMoved : (.instanceMethod y_Be_layMoved : Cond) ∈ wA := inT 637 (by decide +kernel) rfl
theorem lm_Be_68 : (.methodLink R_Be 68 y_Be_divideRun : Cond) ∈ wA := inT 639 (by decide +kernel) rfl
theorem im_Be_divideRun : (.instanceMethod y_Be_divideRun : Cond) ∈ wA := inT 641 (by decide +kernel) rfl
theorem lm_Be_116 : (.methodLink R_Be 116 y_Be_dividePlain : Cond) ∈ wA := inT 643 (by decide +kernel) rfl
theorem im_Be_dividePlain : (.instanceMethod y_Be_dividePlain : Cond) ∈ wA := inT 645 (by decide +kernel) rfl
theorem lm_Be_126 : (.methodLink R_Be 126 y_Be_isNotLess : Cond) ∈ wA := inT 647 (by decide +kernel) rfl
theorem im_Be_isNotLess : (.instanceMethod y_Be_isNotLess : Cond) ∈ wA := inT 649 (by decide +kernel) rfl
theorem lm_Be_130 : (.methodLink R_Be 130 y_Be_guessWord : Cond) ∈ wA := inT 651 (by decide +kernel) rfl
theorem im_Be_guessWord : (.instanceMethod y_Be_guessWord : Cond) ∈ wA := inT 653 (by decide +kernel) rfl
theorem lm_Be_138 : (.methodLink R_Be 138 y_Be_shareOf : Cond) ∈ wA := inT 655 (by decide +kernel) rfl
theorem st_Be_shareOf : (.static y_Be_shareOf : Cond) ∈ wA := inT 656 (by decide +kernel) rfl
theorem lm_Be_134 : (.methodLink R_Be 134 y_Be_takeProduct : Cond) ∈ wA := inT 658 (by decide +kernel) rfl
theorem im_Be_takeProduct : (.instanceMethod y_Be_takeProduct : Cond) ∈ wA := inT 660 (by decide +kernel) rfl
theorem lm_Be_120 : (.methodLink R_Be 120 y_Be_divideByHead : Cond) ∈ wA := inT 662 (by decide +kernel) rfl
theorem im_Be_divideByHead : (.instanceMethod y_Be_divideByHead : Cond) ∈ wA := inT 664 (by decide +kernel) rfl
theorem lm_Be_123 : (.methodLink R_Be 123 y_Be_takeOne : Cond) ∈ wA := inT 666 (by decide +kernel) rfl
theorem im_Be_takeOne : (.instanceMethod y_Be_takeOne : Cond) ∈ wA := inT 668 (by decide +kernel) rfl
theorem lm_Be_75 : (.methodLink R_Be 75 y_Na_putMoved : Cond) ∈ wA := inT 670 (by decide +kernel) rfl
theorem lm_La_114 : (.methodLink R_La 114 y_La_power : Cond) ∈ wA := inT 671 (by decide +kernel) rfl
theorem st_La_power : (.static y_La_power : Cond) ∈ wA := inT 672 (by decide +kernel) rfl
theorem lm_La_40 : (.methodLink R_La 40 y_Lw_power : Cond) ∈ wA := inT 674 (by decide +kernel) rfl
theorem im_Lw_power : (.instanceMethod y_Lw_power : Cond) ∈ wA := inT 675 (by decide +kernel) rfl
theorem se_Lw_power : (.selects R_Lw y_Lw_power y_Lw_power : Cond) ∈ wA := inT 676 (by decide +kernel) rfl
theorem lm_Lw_107 : (.methodLink R_Lw 107 y_Be_putPower : Cond) ∈ wA := inT 678 (by decide +kernel) rfl
theorem im_Be_putPower : (.instanceMethod y_Be_putPower : Cond) ∈ wA := inT 679 (by decide +kernel) rfl
theorem se_Be_putPower : (.selects R_Be y_Be_putPower y_Be_putPower : Cond) ∈ wA := inT 680 (by decide +kernel) rfl
theorem lm_Be_38 : (.methodLink R_Be 38 y_Na_putLong : Cond) ∈ wA := inT 682 (by decide +kernel) rfl
theorem lm_Be_42 : (.methodLink R_Be 42 y_Na_putSame : Cond) ∈ wA := inT 683 (by decide +kernel) rfl
theorem lm_Be_50 : (.methodLink R_Be 50 y_Be_putProduct : Cond) ∈ wA := inT 685 (by decide +kernel) rfl
theorem lm_La_117 : (.methodLink R_La 117 y_La_root : Cond) ∈ wA := inT 686 (by decide +kernel) rfl
theorem st_La_root : (.static y_La_root : Cond) ∈ wA := inT 687 (by decide +kernel) rfl
theorem lm_La_43 : (.methodLink R_La 43 y_Lw_root : Cond) ∈ wA := inT 689 (by decide +kernel) rfl
theorem im_Lw_root : (.instanceMethod y_Lw_root : Cond) ∈ wA := inT 690 (by decide +kernel) rfl
theorem se_Lw_root : (.selects R_Lw y_Lw_root y_Lw_root : Cond) ∈ wA := inT 691 (by decide +kernel) rfl
theorem lm_Lw_111 : (.methodLink R_Lw 111 y_Ro_putRoot : Cond) ∈ wA := inT 693 (by decide +kernel) rfl
theorem im_Ro_putRoot : (.instanceMethod y_Ro_putRoot : Cond) ∈ wA := inT 694 (by decide +kernel) rfl
theorem se_Ro_putRoot : (.selects R_Ro y_Ro_putRoot y_Ro_putRoot : Cond) ∈ wA := inT 695 (by decide +kernel) rfl
theorem lm_Ro_22 : (.methodLink R_Ro 22 y_Na_countBits : Cond) ∈ wA := inT 697 (by decide +kernel) rfl
theorem lm_Ro_26 : (.methodLink R_Ro 26 y_Na_putSame : Cond) ∈ wA := inT 698 (by decide +kernel) rfl
theorem lm_Ro_30 : (.methodLink R_Ro 30 y_Na_putLong : Cond) ∈ wA := inT 699 (by decide +kernel) rfl
theorem lm_Ro_34 : (.methodLink R_Ro 34 y_Ro_nextLength : Cond) ∈ wA := inT 700 (by decide +kernel) rfl
theorem st_Ro_nextLength : (.static y_Ro_nextLength : Cond) ∈ wA := inT 701 (by decide +kernel) rfl
theorem lm_Ro_71 : (.methodLink R_Ro 71 Lib.Math.min.name : Cond) ∈ wA := inT 704 (by decide +kernel) rfl
theorem lm_Ro_38 : (.methodLink R_Ro 38 Lib.Math.max.name : Cond) ∈ wA := inT 705 (by decide +kernel) rfl
theorem lm_Ro_44 : (.methodLink R_Ro 44 y_Ro_layStep : Cond) ∈ wA := inT 706 (by decide +kernel) rfl
theorem im_Ro_layStep : (.instanceMethod y_Ro_layStep : Cond) ∈ wA := inT 708 (by decide +kernel) rfl
theorem lm_Ro_58 : (.methodLink R_Ro 58 y_Na_putMoved : Cond) ∈ wA := inT 710 (by decide +kernel) rfl
theorem lm_Ro_74 : (.methodLink R_Ro 74 y_Na_putDifference : Cond) ∈ wA := inT 711 (by decide +kernel) rfl
theorem lm_Ro_78 : (.methodLink R_Ro 78 y_Na_scale : Cond) ∈ wA := inT 712 (by decide +kernel) rfl
theorem im_Na_scale : (.instanceMethod y_Na_scale : Cond) ∈ wA := inT 713 (by decide +kernel) rfl
theorem se_Na_scale : (.selects R_Na y_Na_scale y_Na_scale : Cond) ∈ wA := inT 714 (by decide +kernel) rfl
theorem lm_Ro_48 : (.methodLink R_Ro 48 y_Be_putQuotient : Cond) ∈ wA := inT 716 (by decide +kernel) rfl
theorem lm_Ro_54 : (.methodLink R_Ro 54 y_Ro_lengthen : Cond) ∈ wA := inT 717 (by decide +kernel) rfl
theorem im_Ro_lengthen : (.instanceMethod y_Ro_lengthen : Cond) ∈ wA := inT 719 (by decide +kernel) rfl
theorem lm_Ro_82 : (.methodLink R_Ro 82 y_Na_putOnes : Cond) ∈ wA := inT 721 (by decide +kernel) rfl
theorem im_Na_putOnes : (.instanceMethod y_Na_putOnes : Cond) ∈ wA := inT 722 (by decide +kernel) rfl
theorem se_Na_putOnes : (.selects R_Na y_Na_putOnes y_Na_putOnes : Cond) ∈ wA := inT 723 (by decide +kernel) rfl
theorem lm_Ro_86 : (.methodLink R_Ro 86 y_Na_putSum : Cond) ∈ wA := inT 725 (by decide +kernel) rfl
theorem lm_Ro_61 : (.methodLink R_Ro 61 y_Ro_lowerToFit : Cond) ∈ wA := inT 726 (by decide +kernel) rfl
theorem im_Ro_lowerToFit : (.instanceMethod y_Ro_lowerToFit : Cond) ∈ wA := inT 728 (by decide +kernel) rfl
theorem lm_Ro_89 : (.methodLink R_Ro 89 y_Be_putPower : Cond) ∈ wA := inT 730 (by decide +kernel) rfl
theorem lm_Ro_93 : (.methodLink R_Ro 93 y_Be_putProduct : Cond) ∈ wA := inT 731 (by decide +kernel) rfl
theorem lm_Ro_97 : (.methodLink R_Ro 97 y_Na_order : Cond) ∈ wA := inT 732 (by decide +kernel) rfl
theorem lm_Ro_101 : (.methodLink R_Ro 101 y_Na_takeOne : Cond) ∈ wA := inT 733 (by decide +kernel) rfl
theorem im_Na_takeOne : (.instanceMethod y_Na_takeOne : Cond) ∈ wA := inT 734 (by decide +kernel) rfl
theorem se_Na_takeOne : (.selects R_Na y_Na_takeOne y_Na_takeOne : Cond) ∈ wA := inT 735 (by decide +kernel) rfl
theorem lm_La_120 : (.methodLink R_La 120 y_La_compare : Cond) ∈ wA := inT 737 (by decide +kernel) rfl
theorem st_La_compare : (.static y_La_compare : Cond) ∈ wA := inT 738 (by decide +kernel) rfl
theorem lm_La_46 : (.methodLink R_La 46 y_Lw_compare : Cond) ∈ wA := inT 740 (by decide +kernel) rfl
theorem im_Lw_compare : (.instanceMethod y_Lw_compare : Cond) ∈ wA := inT 741 (by decide +kernel) rfl
theorem se_Lw_compare : (.selects R_Lw y_Lw_compare y_Lw_compare : Cond) ∈ wA := inT 742 (by decide +kernel) rfl
theorem lm_La_123 : (.methodLink R_La 123 y_La_bits : Cond) ∈ wA := inT 744 (by decide +kernel) rfl
theorem st_La_bits : (.static y_La_bits : Cond) ∈ wA := inT 745 (by decide +kernel) rfl
theorem lm_La_49 : (.methodLink R_La 49 y_Lw_bits : Cond) ∈ wA := inT 747 (by decide +kernel) rfl
theorem im_Lw_bits : (.instanceMethod y_Lw_bits : Cond) ∈ wA := inT 748 (by decide +kernel) rfl
theorem se_Lw_bits : (.selects R_Lw y_Lw_bits y_Lw_bits : Cond) ∈ wA := inT 749 (by decide +kernel) rfl
theorem lm_La_127 : (.methodLink R_La 127 y_La_word : Cond) ∈ wA := inT 751 (by decide +kernel) rfl
theorem st_La_word : (.static y_La_word : Cond) ∈ wA := inT 752 (by decide +kernel) rfl
theorem lm_La_53 : (.methodLink R_La 53 y_Lw_word : Cond) ∈ wA := inT 754 (by decide +kernel) rfl
theorem im_Lw_word : (.instanceMethod y_Lw_word : Cond) ∈ wA := inT 755 (by decide +kernel) rfl
theorem se_Lw_word : (.selects R_Lw y_Lw_word y_Lw_word : Cond) ∈ wA := inT 756 (by decide +kernel) rfl
theorem ll_Lw_118 : (.constantLong R_Lw 118 (4294967295 : Int64) : Cond) ∈ wA := inT 758 (by decide +kernel) rfl
theorem lm_La_130 : (.methodLink R_La 130 y_La_feed : Cond) ∈ wA := inT 759 (by decide +kernel) rfl
theorem st_La_feed : (.static y_La_feed : Cond) ∈ wA := inT 760 (by decide +kernel) rfl
theorem lm_La_57 : (.methodLink R_La 57 y_Lw_feed : Cond) ∈ wA := inT 762 (by decide +kernel) rfl
theorem im_Lw_feed : (.instanceMethod y_Lw_feed : Cond) ∈ wA := inT 763 (by decide +kernel) rfl
theorem se_Lw_feed : (.selects R_Lw y_Lw_feed y_Lw_feed : Cond) ∈ wA := inT 764 (by decide +kernel) rfl
theorem lm_Lw_120 : (.methodLink R_Lw 120 y_Lw_feedWord : Cond) ∈ wA := inT 766 (by decide +kernel) rfl
theorem im_Lw_feedWord : (.instanceMethod y_Lw_feedWord : Cond) ∈ wA := inT 768 (by decide +kernel) rfl
theorem lm_La_134 : (.methodLink R_La 134 y_La_end : Cond) ∈ wA := inT 770 (by decide +kernel) rfl
theorem st_La_end : (.static y_La_end : Cond) ∈ wA := inT 771 (by decide +kernel) rfl
theorem lm_La_61 : (.methodLink R_La 61 y_Lw_end : Cond) ∈ wA := inT 773 (by decide +kernel) rfl
theorem im_Lw_end : (.instanceMethod y_Lw_end : Cond) ∈ wA := inT 774 (by decide +kernel) rfl
theorem se_Lw_end : (.selects R_Lw y_Lw_end y_Lw_end : Cond) ∈ wA := inT 775 (by decide +kernel) rfl
theorem lm_La_137 : (.methodLink R_La 137 y_La_read : Cond) ∈ wA := inT 777 (by decide +kernel) rfl
theorem st_La_read : (.static y_La_read : Cond) ∈ wA := inT 778 (by decide +kernel) rfl
theorem lc_La_67 : (.classLink R_La 67 "java/lang/UnsupportedOperationException" : Cond) ∈ wA := inT 780 (by decide +kernel) rfl
theorem lm_La_64 : (.methodLink R_La 64 y_Lw_read : Cond) ∈ wA := inT 781 (by decide +kernel) rfl
theorem im_Lw_read : (.instanceMethod y_Lw_read : Cond) ∈ wA := inT 782 (by decide +kernel) rfl
theorem se_Lw_read : (.selects R_Lw y_Lw_read y_Lw_read : Cond) ∈ wA := inT 783 (by decide +kernel) rfl
theorem lm_Lw_124 : (.methodLink R_Lw 124 y_Lw_hasDigitsAlone : Cond) ∈ wA := inT 785 (by decide +kernel) rfl
theorem im_Lw_hasDigitsAlone : (.instanceMethod y_Lw_hasDigitsAlone : Cond) ∈ wA := inT 787 (by decide +kernel) rfl
theorem lm_Lw_174 : (.methodLink R_Lw 174 y_Lw_digitOf : Cond) ∈ wA := inT 789 (by decide +kernel) rfl
theorem st_Lw_digitOf : (.static y_Lw_digitOf : Cond) ∈ wA := inT 790 (by decide +kernel) rfl
theorem lc_Lw_128 : (.classLink R_Lw 128 "java/lang/UnsupportedOperationException" : Cond) ∈ wA := inT 792 (by decide +kernel) rfl
theorem lm_Lw_130 : (.methodLink R_Lw 130 ⟨"java/lang/UnsupportedOperationException", "<init>", "()V"⟩ : Cond) ∈ wA := inT 801 (by decide +kernel) rfl
theorem lm_Lw_131 : (.methodLink R_Lw 131 y_Lw_readDigits : Cond) ∈ wA := inT 807 (by decide +kernel) rfl
theorem im_Lw_readDigits : (.instanceMethod y_Lw_readDigits : Cond) ∈ wA := inT 809 (by decide +kernel) rfl
theorem lm_Lw_138 : (.methodLink R_Lw 138 y_Lw_digitsOfPiece : Cond) ∈ wA := inT 811 (by decide +kernel) rfl
theorem st_Lw_digitsOfPiece : (.static y_Lw_digitsOfPiece : Cond) ∈ wA := inT 812 (by decide +kernel) rfl
theorem lk_Lw_185 : (.constant R_Lw 185 (2147483647 : Int32) : Cond) ∈ wA := inT 814 (by decide +kernel) rfl
theorem lm_Lw_177 : (.methodLink R_Lw 177 Lib.Math.min.name : Cond) ∈ wA := inT 815 (by decide +kernel) rfl
theorem lm_Lw_141 : (.methodLink R_Lw 141 y_Lw_powerOf : Cond) ∈ wA := inT 816 (by decide +kernel) rfl
theorem st_Lw_powerOf : (.static y_Lw_powerOf : Cond) ∈ wA := inT 817 (by decide +kernel) rfl
theorem lm_Lw_182 : (.methodLink R_Lw 182 y_Na_scale : Cond) ∈ wA := inT 819 (by decide +kernel) rfl
theorem lm_La_140 : (.methodLink R_La 140 y_La_write : Cond) ∈ wA := inT 820 (by decide +kernel) rfl
theorem st_La_write : (.static y_La_write : Cond) ∈ wA := inT 821 (by decide +kernel) rfl
theorem lm_La_69 : (.methodLink R_La 69 y_Lw_write : Cond) ∈ wA := inT 823 (by decide +kernel) rfl
theorem im_Lw_write : (.instanceMethod y_Lw_write : Cond) ∈ wA := inT 824 (by decide +kernel) rfl
theorem se_Lw_write : (.selects R_Lw y_Lw_write y_Lw_write : Cond) ∈ wA := inT 825 (by decide +kernel) rfl
theorem lm_Lw_134 : (.methodLink R_Lw 134 y_Lw_bitsOf : Cond) ∈ wA := inT 827 (by decide +kernel) rfl
theorem lm_Lw_145 : (.methodLink R_Lw 145 y_Lw_cutIntoPieces : Cond) ∈ wA := inT 828 (by decide +kernel) rfl
theorem im_Lw_cutIntoPieces : (.instanceMethod y_Lw_cutIntoPieces : Cond) ∈ wA := inT 830 (by decide +kernel) rfl
theorem lm_Lw_186 : (.methodLink R_Lw 186 y_Na_reduce : Cond) ∈ wA := inT 832 (by decide +kernel) rfl
theorem im_Na_reduce : (.instanceMethod y_Na_reduce : Cond) ∈ wA := inT 833 (by decide +kernel) rfl
theorem se_Na_reduce : (.selects R_Na y_Na_reduce y_Na_reduce : Cond) ∈ wA := inT 834 (by decide +kernel) rfl
theorem lm_Lw_149 : (.methodLink R_Lw 149 y_Lw_countDigits : Cond) ∈ wA := inT 836 (by decide +kernel) rfl
theorem im_Lw_countDigits : (.instanceMethod y_Lw_countDigits : Cond) ∈ wA := inT 838 (by decide +kernel) rfl
theorem lm_Lw_153 : (.methodLink R_Lw 153 y_Lw_writeDigits : Cond) ∈ wA := inT 840 (by decide +kernel) rfl
theorem im_Lw_writeDigits : (.instanceMethod y_Lw_writeDigits : Cond) ∈ wA := inT 842 (by decide +kernel) rfl
theorem lm_La_143 : (.methodLink R_La 143 y_La_octet : Cond) ∈ wA := inT 844 (by decide +kernel) rfl
theorem st_La_octet : (.static y_La_octet : Cond) ∈ wA := inT 845 (by decide +kernel) rfl
theorem lc_La_75 : (.classLink R_La 75 "java/util/NoSuchElementException" : Cond) ∈ wA := inT 847 (by decide +kernel) rfl
theorem lm_La_72 : (.methodLink R_La 72 y_Lw_octet : Cond) ∈ wA := inT 848 (by decide +kernel) rfl
theorem im_Lw_octet : (.instanceMethod y_Lw_octet : Cond) ∈ wA := inT 849 (by decide +kernel) rfl
theorem se_Lw_octet : (.selects R_Lw y_Lw_octet y_Lw_octet : Cond) ∈ wA := inT 850 (by decide +kernel) rfl
theorem lc_Lw_156 : (.classLink R_Lw 156 "java/util/NoSuchElementException" : Cond) ∈ wA := inT 852 (by decide +kernel) rfl
theorem lm_Lw_158 : (.methodLink R_Lw 158 ⟨"java/util/NoSuchElementException", "<init>", "()V"⟩ : Cond) ∈ wA := inT 861 (by decide +kernel) rfl
theorem lc_La_78 : (.classLink R_La 78 "LimbWorksModel" : Cond) ∈ wA := inT 867 (by decide +kernel) rfl
theorem it_Mo : (.instantiable R_Mo 15 : Cond) ∈ wA := inT 868 (by decide +kernel) rfl
theorem lm_La_80 : (.methodLink R_La 80 y_Mo_init : Cond) ∈ wA := inT 869 (by decide +kernel) rfl
theorem im_Mo_init : (.instanceMethod y_Mo_init : Cond) ∈ wA := inT 870 (by decide +kernel) rfl
theorem lm_Mo_3 : (.methodLink R_Mo 3 objectInit : Cond) ∈ wA := inT 872 (by decide +kernel) rfl
theorem lc_Mo_9 : (.classLink R_Mo 9 "LimbWorksModel$Nat" : Cond) ∈ wA := inT 873 (by decide +kernel) rfl
theorem it_Mn : (.instantiable R_Mn 2 : Cond) ∈ wA := inT 875 (by decide +kernel) rfl
theorem lm_Mo_15 : (.methodLink R_Mo 15 y_Mn_init : Cond) ∈ wA := inT 876 (by decide +kernel) rfl
theorem im_Mn_init : (.instanceMethod y_Mn_init : Cond) ∈ wA := inT 877 (by decide +kernel) rfl
theorem lm_Mn_3 : (.methodLink R_Mn 3 objectInit : Cond) ∈ wA := inT 879 (by decide +kernel) rfl
theorem lf_Mn_9 : (.fieldLink R_Mn 9 "LimbWorksModel$Nat" "w" "[I" : Cond) ∈ wA := inT 880 (by decide +kernel) rfl
theorem lf_Mo_118 : (.fieldLink R_Mo 118 "LimbWorksModel$Nat" "w" "[I" : Cond) ∈ wA := inT 881 (by decide +kernel) rfl
theorem lf_Mn_15 : (.fieldLink R_Mn 15 "LimbWorksModel$Nat" "n" "I" : Cond) ∈ wA := inT 882 (by decide +kernel) rfl
theorem lf_Mo_89 : (.fieldLink R_Mo 89 "LimbWorksModel$Nat" "n" "I" : Cond) ∈ wA := inT 883 (by decide +kernel) rfl
theorem lf_Mo_11 : (.fieldLink R_Mo 11 "LimbWorksModel" "register" "[LLimbWorksModel$Nat;" : Cond) ∈ wA := inT 889 (by decide +kernel) rfl
theorem lf_Mo_18 : (.fieldLink R_Mo 18 "LimbWorksModel" "value" "LLimbWorksModel$Nat;" : Cond) ∈ wA := inT 890 (by decide +kernel) rfl
theorem lf_Mo_22 : (.fieldLink R_Mo 22 "LimbWorksModel" "other" "LLimbWorksModel$Nat;" : Cond) ∈ wA := inT 891 (by decide +kernel) rfl
theorem lf_Mo_25 : (.fieldLink R_Mo 25 "LimbWorksModel" "product" "LLimbWorksModel$Nat;" : Cond) ∈ wA := inT 892 (by decide +kernel) rfl
theorem lf_Mo_28 : (.fieldLink R_Mo 28 "LimbWorksModel" "rest" "LLimbWorksModel$Nat;" : Cond) ∈ wA := inT 893 (by decide +kernel) rfl
theorem lf_Mo_31 : (.fieldLink R_Mo 31 "LimbWorksModel" "divisor" "LLimbWorksModel$Nat;" : Cond) ∈ wA := inT 894 (by decide +kernel) rfl
theorem lf_Mo_34 : (.fieldLink R_Mo 34 "LimbWorksModel" "power" "LLimbWorksModel$Nat;" : Cond) ∈ wA := inT 895 (by decide +kernel) rfl
theorem lf_Mo_37 : (.fieldLink R_Mo 37 "LimbWorksModel" "square" "LLimbWorksModel$Nat;" : Cond) ∈ wA := inT 896 (by decide +kernel) rfl
theorem lf_Mo_40 : (.fieldLink R_Mo 40 "LimbWorksModel" "guess" "LLimbWorksModel$Nat;" : Cond) ∈ wA := inT 897 (by decide +kernel) rfl
theorem lf_Mo_43 : (.fieldLink R_Mo 43 "LimbWorksModel" "unit" "LLimbWorksModel$Nat;" : Cond) ∈ wA := inT 898 (by decide +kernel) rfl
theorem lf_Mo_46 : (.fieldLink R_Mo 46 "LimbWorksModel" "tape" "[B" : Cond) ∈ wA := inT 899 (by decide +kernel) rfl
theorem lf_Mo_50 : (.fieldLink R_Mo 50 "LimbWorksModel" "out" "[B" : Cond) ∈ wA := inT 900 (by decide +kernel) rfl
theorem lf_Mo_165 : (.fieldLink R_Mo 165 "LimbWorksModel" "tapeSize" "I" : Cond) ∈ wA := inT 901 (by decide +kernel) rfl
theorem lf_Mo_177 : (.fieldLink R_Mo 177 "LimbWorksModel" "outSize" "I" : Cond) ∈ wA := inT 902 (by decide +kernel) rfl
theorem lf_Mo_183 : (.fieldLink R_Mo 183 "LimbWorksModel" "thrown" "I" : Cond) ∈ wA := inT 903 (by decide +kernel) rfl
theorem lm_La_89 : (.methodLink R_La 89 y_Mo_thrown : Cond) ∈ wA := inT 935 (by decide +kernel) rfl
theorem im_Mo_thrown : (.instanceMethod y_Mo_thrown : Cond) ∈ wA := inT 936 (by decide +kernel) rfl
theorem se_Mo_thrown : (.selects R_Mo y_Mo_thrown y_Mo_thrown : Cond) ∈ wA := inT 937 (by decide +kernel) rfl
theorem lm_La_88 : (.methodLink R_La 88 y_Mo_set : Cond) ∈ wA := inT 939 (by decide +kernel) rfl
theorem im_Mo_set : (.instanceMethod y_Mo_set : Cond) ∈ wA := inT 940 (by decide +kernel) rfl
theorem se_Mo_set : (.selects R_Mo y_Mo_set y_Mo_set : Cond) ∈ wA := inT 941 (by decide +kernel) rfl
theorem lc_Mo_53 : (.classLink R_Mo 53 "java/lang/IllegalArgumentException" : Cond) ∈ wA := inT 943 (by decide +kernel) rfl
theorem lm_Mo_186 : (.methodLink R_Mo 186 y_Mo_set0 : Cond) ∈ wA := inT 944 (by decide +kernel) rfl
theorem im_Mo_set0 : (.instanceMethod y_Mo_set0 : Cond) ∈ wA := inT 946 (by decide +kernel) rfl
theorem lm_Mo_77 : (.methodLink R_Mo 77 y_Mo_named : Cond) ∈ wA := inT 948 (by decide +kernel) rfl
theorem st_Mo_named : (.static y_Mo_named : Cond) ∈ wA := inT 949 (by decide +kernel) rfl
theorem lm_Mo_56 : (.methodLink R_Mo 56 y_Mo_in : Cond) ∈ wA := inT 951 (by decide +kernel) rfl
theorem st_Mo_in : (.static y_Mo_in : Cond) ∈ wA := inT 952 (by decide +kernel) rfl
theorem lm_Mo_60 : (.methodLink R_Mo 60 y_Mo_check : Cond) ∈ wA := inT 954 (by decide +kernel) rfl
theorem st_Mo_check : (.static y_Mo_check : Cond) ∈ wA := inT 955 (by decide +kernel) rfl
theorem lm_Mo_55 : (.methodLink R_Mo 55 ⟨"java/lang/IllegalArgumentException", "<init>", "()V"⟩ : Cond) ∈ wA := inT 957 (by decide +kernel) rfl
theorem lm_Mo_80 : (.methodLink R_Mo 80 y_Mn_set_J : Cond) ∈ wA := inT 958 (by decide +kernel) rfl
theorem im_Mn_set_J : (.instanceMethod y_Mn_set_J : Cond) ∈ wA := inT 959 (by decide +kernel) rfl
theorem se_Mn_set_J : (.selects R_Mn y_Mn_set_J y_Mn_set_J : Cond) ∈ wA := inT 960 (by decide +kernel) rfl
theorem lk_Mn_25 : (.constant R_Mn 25 (1073741823 : Int32) : Cond) ∈ wA := inT 962 (by decide +kernel) rfl
theorem lm_Mo_83 : (.methodLink R_Mo 83 y_Mo_keep : Cond) ∈ wA := inT 963 (by decide +kernel) rfl
theorem im_Mo_keep : (.instanceMethod y_Mo_keep : Cond) ∈ wA := inT 965 (by decide +kernel) rfl
theorem lm_Mo_69 : (.methodLink R_Mo 69 y_Mn_set_N : Cond) ∈ wA := inT 967 (by decide +kernel) rfl
theorem im_Mn_set_N : (.instanceMethod y_Mn_set_N : Cond) ∈ wA := inT 968 (by decide +kernel) rfl
theorem se_Mn_set_N : (.selects R_Mn y_Mn_set_N y_Mn_set_N : Cond) ∈ wA := inT 969 (by decide +kernel) rfl
theorem lm_Mn_19 : (.methodLink R_Mn 19 arraycopyName : Cond) ∈ wA := inT 971 (by decide +kernel) rfl
theorem lm_Mo_73 : (.methodLink R_Mo 73 y_Mn_bits : Cond) ∈ wA := inT 972 (by decide +kernel) rfl
theorem im_Mn_bits : (.instanceMethod y_Mn_bits : Cond) ∈ wA := inT 973 (by decide +kernel) rfl
theorem se_Mn_bits : (.selects R_Mn y_Mn_bits y_Mn_bits : Cond) ∈ wA := inT 974 (by decide +kernel) rfl
theorem lm_La_96 : (.methodLink R_La 96 y_Mo_copy : Cond) ∈ wA := inT 976 (by decide +kernel) rfl
theorem im_Mo_copy : (.instanceMethod y_Mo_copy : Cond) ∈ wA := inT 977 (by decide +kernel) rfl
theorem se_Mo_copy : (.selects R_Mo y_Mo_copy y_Mo_copy : Cond) ∈ wA := inT 978 (by decide +kernel) rfl
theorem lm_Mo_190 : (.methodLink R_Mo 190 y_Mo_copy0 : Cond) ∈ wA := inT 980 (by decide +kernel) rfl
theorem im_Mo_copy0 : (.instanceMethod y_Mo_copy0 : Cond) ∈ wA := inT 982 (by decide +kernel) rfl
theorem lm_La_100 : (.methodLink R_La 100 y_Mo_shift : Cond) ∈ wA := inT 984 (by decide +kernel) rfl
theorem im_Mo_shift : (.instanceMethod y_Mo_shift : Cond) ∈ wA := inT 985 (by decide +kernel) rfl
theorem se_Mo_shift : (.selects R_Mo y_Mo_shift y_Mo_shift : Cond) ∈ wA := inT 986 (by decide +kernel) rfl
theorem lc_Mo_66 : (.classLink R_Mo 66 "java/lang/IllegalStateException" : Cond) ∈ wA := inT 988 (by decide +kernel) rfl
theorem lm_Mo_193 : (.methodLink R_Mo 193 y_Mo_shift0 : Cond) ∈ wA := inT 989 (by decide +kernel) rfl
theorem im_Mo_shift0 : (.instanceMethod y_Mo_shift0 : Cond) ∈ wA := inT 991 (by decide +kernel) rfl
theorem lk_Mo_87 : (.constant R_Mo 87 (-200000 : Int32) : Cond) ∈ wA := inT 993 (by decide +kernel) rfl
theorem lk_Mo_88 : (.constant R_Mo 88 (200000 : Int32) : Cond) ∈ wA := inT 994 (by decide +kernel) rfl
theorem lm_Mo_93 : (.methodLink R_Mo 93 y_Mo_fits : Cond) ∈ wA := inT 995 (by decide +kernel) rfl
theorem st_Mo_fits : (.static y_Mo_fits : Cond) ∈ wA := inT 996 (by decide +kernel) rfl
theorem ll_Mo_64 : (.constantLong R_Mo 64 (200000 : Int64) : Cond) ∈ wA := inT 998 (by decide +kernel) rfl
theorem lm_Mo_68 : (.methodLink R_Mo 68 ⟨"java/lang/IllegalStateException", "<init>", "()V"⟩ : Cond) ∈ wA := inT 999 (by decide +kernel) rfl
theorem lm_Mo_96 : (.methodLink R_Mo 96 y_Mn_up : Cond) ∈ wA := inT 1000 (by decide +kernel) rfl
theorem im_Mn_up : (.instanceMethod y_Mn_up : Cond) ∈ wA := inT 1001 (by decide +kernel) rfl
theorem se_Mn_up : (.selects R_Mn y_Mn_up y_Mn_up : Cond) ∈ wA := inT 1002 (by decide +kernel) rfl
theorem lm_Mn_32 : (.methodLink R_Mn 32 y_Mn_trim : Cond) ∈ wA := inT 1004 (by decide +kernel) rfl
theorem im_Mn_trim : (.instanceMethod y_Mn_trim : Cond) ∈ wA := inT 1006 (by decide +kernel) rfl
theorem lm_Mo_99 : (.methodLink R_Mo 99 y_Mn_down : Cond) ∈ wA := inT 1008 (by decide +kernel) rfl
theorem im_Mn_down : (.instanceMethod y_Mn_down : Cond) ∈ wA := inT 1009 (by decide +kernel) rfl
theorem se_Mn_down : (.selects R_Mn y_Mn_down y_Mn_down : Cond) ∈ wA := inT 1010 (by decide +kernel) rfl
theorem lm_La_103 : (.methodLink R_La 103 y_Mo_add : Cond) ∈ wA := inT 1012 (by decide +kernel) rfl
theorem im_Mo_add : (.instanceMethod y_Mo_add : Cond) ∈ wA := inT 1013 (by decide +kernel) rfl
theorem se_Mo_add : (.selects R_Mo y_Mo_add y_Mo_add : Cond) ∈ wA := inT 1014 (by decide +kernel) rfl
theorem lm_Mo_197 : (.methodLink R_Mo 197 y_Mo_add0 : Cond) ∈ wA := inT 1016 (by decide +kernel) rfl
theorem im_Mo_add0 : (.instanceMethod y_Mo_add0 : Cond) ∈ wA := inT 1018 (by decide +kernel) rfl
theorem lm_Mo_102 : (.methodLink R_Mo 102 y_Mn_add_N : Cond) ∈ wA := inT 1020 (by decide +kernel) rfl
theorem im_Mn_add_N : (.instanceMethod y_Mn_add_N : Cond) ∈ wA := inT 1021 (by decide +kernel) rfl
theorem se_Mn_add_N : (.selects R_Mn y_Mn_add_N y_Mn_add_N : Cond) ∈ wA := inT 1022 (by decide +kernel) rfl
theorem lm_Mn_26 : (.methodLink R_Mn 26 Lib.Math.max.name : Cond) ∈ wA := inT 1024 (by decide +kernel) rfl
theorem lm_La_106 : (.methodLink R_La 106 y_Mo_subtract : Cond) ∈ wA := inT 1025 (by decide +kernel) rfl
theorem im_Mo_subtract : (.instanceMethod y_Mo_subtract : Cond) ∈ wA := inT 1026 (by decide +kernel) rfl
theorem se_Mo_subtract : (.selects R_Mo y_Mo_subtract y_Mo_subtract : Cond) ∈ wA := inT 1027 (by decide +kernel) rfl
theorem lc_Mo_109 : (.classLink R_Mo 109 "java/lang/ArithmeticException" : Cond) ∈ wA := inT 1029 (by decide +kernel) rfl
theorem lm_Mo_200 : (.methodLink R_Mo 200 y_Mo_subtract0 : Cond) ∈ wA := inT 1030 (by decide +kernel) rfl
theorem im_Mo_subtract0 : (.instanceMethod y_Mo_subtract0 : Cond) ∈ wA := inT 1032 (by decide +kernel) rfl
theorem lm_Mo_105 : (.methodLink R_Mo 105 y_Mn_compare : Cond) ∈ wA := inT 1034 (by decide +kernel) rfl
theorem im_Mn_compare : (.instanceMethod y_Mn_compare : Cond) ∈ wA := inT 1035 (by decide +kernel) rfl
theorem se_Mn_compare : (.selects R_Mn y_Mn_compare y_Mn_compare : Cond) ∈ wA := inT 1036 (by decide +kernel) rfl
theorem lm_Mo_111 : (.methodLink R_Mo 111 ⟨"java/lang/ArithmeticException", "<init>", "()V"⟩ : Cond) ∈ wA := inT 1038 (by decide +kernel) rfl
theorem lm_Mo_112 : (.methodLink R_Mo 112 y_Mn_less : Cond) ∈ wA := inT 1039 (by decide +kernel) rfl
theorem im_Mn_less : (.instanceMethod y_Mn_less : Cond) ∈ wA := inT 1040 (by decide +kernel) rfl
theorem se_Mn_less : (.selects R_Mn y_Mn_less y_Mn_less : Cond) ∈ wA := inT 1041 (by decide +kernel) rfl
theorem lm_La_109 : (.methodLink R_La 109 y_Mo_times : Cond) ∈ wA := inT 1043 (by decide +kernel) rfl
theorem im_Mo_times : (.instanceMethod y_Mo_times : Cond) ∈ wA := inT 1044 (by decide +kernel) rfl
theorem se_Mo_times : (.selects R_Mo y_Mo_times y_Mo_times : Cond) ∈ wA := inT 1045 (by decide +kernel) rfl
theorem lm_Mo_203 : (.methodLink R_Mo 203 y_Mo_times0 : Cond) ∈ wA := inT 1047 (by decide +kernel) rfl
theorem im_Mo_times0 : (.instanceMethod y_Mo_times0 : Cond) ∈ wA := inT 1049 (by decide +kernel) rfl
theorem lm_Mo_115 : (.methodLink R_Mo 115 y_Mn_product : Cond) ∈ wA := inT 1051 (by decide +kernel) rfl
theorem im_Mn_product : (.instanceMethod y_Mn_product : Cond) ∈ wA := inT 1052 (by decide +kernel) rfl
theorem se_Mn_product : (.selects R_Mn y_Mn_product y_Mn_product : Cond) ∈ wA := inT 1053 (by decide +kernel) rfl
theorem lm_Mn_36 : (.methodLink R_Mn 36 y_Ja_fill : Cond) ∈ wA := inT 1055 (by decide +kernel) rfl
theorem lm_La_113 : (.methodLink R_La 113 y_Mo_divide_IIII : Cond) ∈ wA := inT 1056 (by decide +kernel) rfl
theorem im_Mo_divide_IIII : (.instanceMethod y_Mo_divide_IIII : Cond) ∈ wA := inT 1057 (by decide +kernel) rfl
theorem se_Mo_divide_IIII : (.selects R_Mo y_Mo_divide_IIII y_Mo_divide_IIII : Cond) ∈ wA := inT 1058 (by decide +kernel) rfl
theorem lm_Mo_206 : (.methodLink R_Mo 206 y_Mo_divide0 : Cond) ∈ wA := inT 1060 (by decide +kernel) rfl
theorem im_Mo_divide0 : (.instanceMethod y_Mo_divide0 : Cond) ∈ wA := inT 1062 (by decide +kernel) rfl
theorem lm_Mo_133 : (.methodLink R_Mo 133 y_Mo_divide_NNN : Cond) ∈ wA := inT 1064 (by decide +kernel) rfl
theorem im_Mo_divide_NNN : (.instanceMethod y_Mo_divide_NNN : Cond) ∈ wA := inT 1066 (by decide +kernel) rfl
theorem lk_Mo_122 : (.constant R_Mo 122 (536870912 : Int32) : Cond) ∈ wA := inT 1068 (by decide +kernel) rfl
theorem ll_Mo_123 : (.constantLong R_Mo 123 (1073741823 : Int64) : Cond) ∈ wA := inT 1069 (by decide +kernel) rfl
theorem lm_Mo_125 : (.methodLink R_Mo 125 y_Mo_takesTooMuch : Cond) ∈ wA := inT 1070 (by decide +kernel) rfl
theorem im_Mo_takesTooMuch : (.instanceMethod y_Mo_takesTooMuch : Cond) ∈ wA := inT 1072 (by decide +kernel) rfl
theorem lk_Mo_132 : (.constant R_Mo 132 (1073741823 : Int32) : Cond) ∈ wA := inT 1074 (by decide +kernel) rfl
theorem lm_La_116 : (.methodLink R_La 116 y_Mo_power : Cond) ∈ wA := inT 1076 (by decide +kernel) rfl
theorem im_Mo_power : (.instanceMethod y_Mo_power : Cond) ∈ wA := inT 1077 (by decide +kernel) rfl
theorem se_Mo_power : (.selects R_Mo y_Mo_power y_Mo_power : Cond) ∈ wA := inT 1078 (by decide +kernel) rfl
theorem lm_Mo_210 : (.methodLink R_Mo 210 y_Mo_power0 : Cond) ∈ wA := inT 1080 (by decide +kernel) rfl
theorem im_Mo_power0 : (.instanceMethod y_Mo_power0 : Cond) ∈ wA := inT 1082 (by decide +kernel) rfl
theorem lm_Mo_137 : (.methodLink R_Mo 137 y_Mo_raise : Cond) ∈ wA := inT 1084 (by decide +kernel) rfl
theorem im_Mo_raise : (.instanceMethod y_Mo_raise : Cond) ∈ wA := inT 1086 (by decide +kernel) rfl
theorem lm_Mo_151 : (.methodLink R_Mo 151 ⟨"java/lang/Integer", "numberOfLeadingZeros", "(I)I"⟩ : Cond) ∈ wA := inT 1088 (by decide +kernel) rfl
theorem lk_Ji_264 : (.constant R_Ji 264 (65536 : Int32) : Cond) ∈ wA := inT 1091 (by decide +kernel) rfl
theorem lm_La_119 : (.methodLink R_La 119 y_Mo_root : Cond) ∈ wA := inT 1092 (by decide +kernel) rfl
theorem im_Mo_root : (.instanceMethod y_Mo_root : Cond) ∈ wA := inT 1093 (by decide +kernel) rfl
theorem se_Mo_root : (.selects R_Mo y_Mo_root y_Mo_root : Cond) ∈ wA := inT 1094 (by decide +kernel) rfl
theorem lm_Mo_213 : (.methodLink R_Mo 213 y_Mo_root0 : Cond) ∈ wA := inT 1096 (by decide +kernel) rfl
theorem im_Mo_root0 : (.instanceMethod y_Mo_root0 : Cond) ∈ wA := inT 1098 (by decide +kernel) rfl
theorem lm_Mo_156 : (.methodLink R_Mo 156 y_Mo_rootOf : Cond) ∈ wA := inT 1100 (by decide +kernel) rfl
theorem im_Mo_rootOf : (.instanceMethod y_Mo_rootOf : Cond) ∈ wA := inT 1102 (by decide +kernel) rfl
theorem lm_Mo_141 : (.methodLink R_Mo 141 y_Mn_one : Cond) ∈ wA := inT 1104 (by decide +kernel) rfl
theorem im_Mn_one : (.instanceMethod y_Mn_one : Cond) ∈ wA := inT 1105 (by decide +kernel) rfl
theorem se_Mn_one : (.selects R_Mn y_Mn_one y_Mn_one : Cond) ∈ wA := inT 1106 (by decide +kernel) rfl
theorem lm_Mo_144 : (.methodLink R_Mo 144 y_Mn_times : Cond) ∈ wA := inT 1108 (by decide +kernel) rfl
theorem im_Mn_times : (.instanceMethod y_Mn_times : Cond) ∈ wA := inT 1109 (by decide +kernel) rfl
theorem se_Mn_times : (.selects R_Mn y_Mn_times y_Mn_times : Cond) ∈ wA := inT 1110 (by decide +kernel) rfl
theorem lm_Mo_147 : (.methodLink R_Mo 147 y_Mn_over : Cond) ∈ wA := inT 1112 (by decide +kernel) rfl
theorem im_Mn_over : (.instanceMethod y_Mn_over : Cond) ∈ wA := inT 1113 (by decide +kernel) rfl
theorem se_Mn_over : (.selects R_Mn y_Mn_over y_Mn_over : Cond) ∈ wA := inT 1114 (by decide +kernel) rfl
theorem lm_La_122 : (.methodLink R_La 122 y_Mo_compare : Cond) ∈ wA := inT 1116 (by decide +kernel) rfl
theorem im_Mo_compare : (.instanceMethod y_Mo_compare : Cond) ∈ wA := inT 1117 (by decide +kernel) rfl
theorem se_Mo_compare : (.selects R_Mo y_Mo_compare y_Mo_compare : Cond) ∈ wA := inT 1118 (by decide +kernel) rfl
theorem lm_Mo_216 : (.methodLink R_Mo 216 y_Mo_compare0 : Cond) ∈ wA := inT 1120 (by decide +kernel) rfl
theorem im_Mo_compare0 : (.instanceMethod y_Mo_compare0 : Cond) ∈ wA := inT 1122 (by decide +kernel) rfl
theorem lm_La_126 : (.methodLink R_La 126 y_Mo_bits : Cond) ∈ wA := inT 1124 (by decide +kernel) rfl
theorem im_Mo_bits : (.instanceMethod y_Mo_bits : Cond) ∈ wA := inT 1125 (by decide +kernel) rfl
theorem se_Mo_bits : (.selects R_Mo y_Mo_bits y_Mo_bits : Cond) ∈ wA := inT 1126 (by decide +kernel) rfl
theorem lm_Mo_219 : (.methodLink R_Mo 219 y_Mo_bits0 : Cond) ∈ wA := inT 1128 (by decide +kernel) rfl
theorem im_Mo_bits0 : (.instanceMethod y_Mo_bits0 : Cond) ∈ wA := inT 1130 (by decide +kernel) rfl
theorem lm_La_129 : (.methodLink R_La 129 y_Mo_word : Cond) ∈ wA := inT 1132 (by decide +kernel) rfl
theorem im_Mo_word : (.instanceMethod y_Mo_word : Cond) ∈ wA := inT 1133 (by decide +kernel) rfl
theorem se_Mo_word : (.selects R_Mo y_Mo_word y_Mo_word : Cond) ∈ wA := inT 1134 (by decide +kernel) rfl
theorem lm_Mo_222 : (.methodLink R_Mo 222 y_Mo_word0 : Cond) ∈ wA := inT 1136 (by decide +kernel) rfl
theorem im_Mo_word0 : (.instanceMethod y_Mo_word0 : Cond) ∈ wA := inT 1138 (by decide +kernel) rfl
theorem ll_Mo_160 : (.constantLong R_Mo 160 (2 : Int64) : Cond) ∈ wA := inT 1140 (by decide +kernel) rfl
theorem lm_Mo_162 : (.methodLink R_Mo 162 y_Mn_bit : Cond) ∈ wA := inT 1141 (by decide +kernel) rfl
theorem im_Mn_bit : (.instanceMethod y_Mn_bit : Cond) ∈ wA := inT 1142 (by decide +kernel) rfl
theorem se_Mn_bit : (.selects R_Mn y_Mn_bit y_Mn_bit : Cond) ∈ wA := inT 1143 (by decide +kernel) rfl
theorem lm_La_133 : (.methodLink R_La 133 y_Mo_feed : Cond) ∈ wA := inT 1145 (by decide +kernel) rfl
theorem im_Mo_feed : (.instanceMethod y_Mo_feed : Cond) ∈ wA := inT 1146 (by decide +kernel) rfl
theorem se_Mo_feed : (.selects R_Mo y_Mo_feed y_Mo_feed : Cond) ∈ wA := inT 1147 (by decide +kernel) rfl
theorem lm_Mo_226 : (.methodLink R_Mo 226 y_Mo_feed0 : Cond) ∈ wA := inT 1149 (by decide +kernel) rfl
theorem im_Mo_feed0 : (.instanceMethod y_Mo_feed0 : Cond) ∈ wA := inT 1151 (by decide +kernel) rfl
theorem lm_La_136 : (.methodLink R_La 136 y_Mo_end : Cond) ∈ wA := inT 1153 (by decide +kernel) rfl
theorem im_Mo_end : (.instanceMethod y_Mo_end : Cond) ∈ wA := inT 1154 (by decide +kernel) rfl
theorem se_Mo_end : (.selects R_Mo y_Mo_end y_Mo_end : Cond) ∈ wA := inT 1155 (by decide +kernel) rfl
theorem lm_Mo_230 : (.methodLink R_Mo 230 y_Mo_end0 : Cond) ∈ wA := inT 1157 (by decide +kernel) rfl
theorem im_Mo_end0 : (.instanceMethod y_Mo_end0 : Cond) ∈ wA := inT 1159 (by decide +kernel) rfl
theorem lm_La_139 : (.methodLink R_La 139 y_Mo_read : Cond) ∈ wA := inT 1161 (by decide +kernel) rfl
theorem im_Mo_read : (.instanceMethod y_Mo_read : Cond) ∈ wA := inT 1162 (by decide +kernel) rfl
theorem se_Mo_read : (.selects R_Mo y_Mo_read y_Mo_read : Cond) ∈ wA := inT 1163 (by decide +kernel) rfl
theorem lc_Mo_172 : (.classLink R_Mo 172 "java/lang/UnsupportedOperationException" : Cond) ∈ wA := inT 1165 (by decide +kernel) rfl
theorem lm_Mo_233 : (.methodLink R_Mo 233 y_Mo_read0 : Cond) ∈ wA := inT 1166 (by decide +kernel) rfl
theorem im_Mo_read0 : (.instanceMethod y_Mo_read0 : Cond) ∈ wA := inT 1168 (by decide +kernel) rfl
theorem lm_Mo_168 : (.methodLink R_Mo 168 y_Mo_digit : Cond) ∈ wA := inT 1170 (by decide +kernel) rfl
theorem st_Mo_digit : (.static y_Mo_digit : Cond) ∈ wA := inT 1171 (by decide +kernel) rfl
theorem lm_Mo_174 : (.methodLink R_Mo 174 ⟨"java/lang/UnsupportedOperationException", "<init>", "()V"⟩ : Cond) ∈ wA := inT 1173 (by decide +kernel) rfl
theorem lm_Mo_175 : (.methodLink R_Mo 175 y_Mn_add_I : Cond) ∈ wA := inT 1174 (by decide +kernel) rfl
theorem im_Mn_add_I : (.instanceMethod y_Mn_add_I : Cond) ∈ wA := inT 1175 (by decide +kernel) rfl
theorem se_Mn_add_I : (.selects R_Mn y_Mn_add_I y_Mn_add_I : Cond) ∈ wA := inT 1176 (by decide +kernel) rfl
theorem lm_La_142 : (.methodLink R_La 142 y_Mo_write : Cond) ∈ wA := inT 1178 (by decide +kernel) rfl
theorem im_Mo_write : (.instanceMethod y_Mo_write : Cond) ∈ wA := inT 1179 (by decide +kernel) rfl
theorem se_Mo_write : (.selects R_Mo y_Mo_write y_Mo_write : Cond) ∈ wA := inT 1180 (by decide +kernel) rfl
theorem lm_Mo_236 : (.methodLink R_Mo 236 y_Mo_write0 : Cond) ∈ wA := inT 1182 (by decide +kernel) rfl
theorem im_Mo_write0 : (.instanceMethod y_Mo_write0 : Cond) ∈ wA := inT 1184 (by decide +kernel) rfl
theorem lm_La_145 : (.methodLink R_La 145 y_Mo_octet : Cond) ∈ wA := inT 1186 (by decide +kernel) rfl
theorem im_Mo_octet : (.instanceMethod y_Mo_octet : Cond) ∈ wA := inT 1187 (by decide +kernel) rfl
theorem se_Mo_octet : (.selects R_Mo y_Mo_octet y_Mo_octet : Cond) ∈ wA := inT 1188 (by decide +kernel) rfl
theorem lc_Mo_180 : (.classLink R_Mo 180 "java/util/NoSuchElementException" : Cond) ∈ wA := inT 1190 (by decide +kernel) rfl
theorem lm_Mo_239 : (.methodLink R_Mo 239 y_Mo_octet0 : Cond) ∈ wA := inT 1191 (by decide +kernel) rfl
theorem im_Mo_octet0 : (.instanceMethod y_Mo_octet0 : Cond) ∈ wA := inT 1193 (by decide +kernel) rfl
theorem lm_Mo_182 : (.methodLink R_Mo 182 ⟨"java/util/NoSuchElementException", "<init>", "()V"⟩ : Cond) ∈ wA := inT 1195 (by decide +kernel) rfl
theorem ll_La_81 : (.constantLong R_La 81 (4294967295 : Int64) : Cond) ∈ wA := inT 1196 (by decide +kernel) rfl
theorem ac_long : (.arrayClass .long : Cond) ∈ wA := inT 1197 (by decide +kernel) rfl
theorem se_Lw_registerAt : (.selects R_Lw y_Lw_registerAt y_Lw_registerAt : Cond) ∈ wA := inP 0 (by decide +kernel) rfl
theorem se_Na_moveUp : (.selects R_Na y_Na_moveUp y_Na_moveUp : Cond) ∈ wA := inP 2 (by decide +kernel) rfl
theorem se_Na_moveDown : (.selects R_Na y_Na_moveDown y_Na_moveDown : Cond) ∈ wA := inP 3 (by decide +kernel) rfl
theorem se_Be_multiply : (.selects R_Be y_Be_multiply y_Be_multiply : Cond) ∈ wA := inP 4 (by decide +kernel) rfl
theorem se_Be_squarePlain : (.selects R_Be y_Be_squarePlain y_Be_squarePlain : Cond) ∈ wA := inP 5 (by decide +kernel) rfl
theorem se_Be_addProduct : (.selects R_Be y_Be_addProduct y_Be_addProduct : Cond) ∈ wA := inP 6 (by decide +kernel) rfl
theorem se_Be_multiplyPlain : (.selects R_Be y_Be_multiplyPlain y_Be_multiplyPlain : Cond) ∈ wA := inP 7 (by decide +kernel) rfl
theorem se_Be_multiplyTwice : (.selects R_Be y_Be_multiplyTwice y_Be_multiplyTwice : Cond) ∈ wA := inP 8 (by decide +kernel) rfl
theorem se_Be_addInto : (.selects R_Be y_Be_addInto y_Be_addInto : Cond) ∈ wA := inP 9 (by decide +kernel) rfl
theorem se_Be_multiplyThrice : (.selects R_Be y_Be_multiplyThrice y_Be_multiplyThrice : Cond) ∈ wA := inP 10 (by decide +kernel) rfl
theorem se_Be_layDifference : (.selects R_Be y_Be_layDifference y_Be_layDifference : Cond) ∈ wA := inP 11 (by decide +kernel) rfl
theorem se_Be_takeFrom : (.selects R_Be y_Be_takeFrom y_Be_takeFrom : Cond) ∈ wA := inP 12 (by decide +kernel) rfl
theorem se_Be_layMoved : (.selects R_Be y_Be_layMoved y_Be_layMoved : Cond) ∈ wA := inP 13 (by decide +kernel) rfl
theorem se_Be_divideRun : (.selects R_Be y_Be_divideRun y_Be_divideRun : Cond) ∈ wA := inP 14 (by decide +kernel) rfl
theorem se_Be_dividePlain : (.selects R_Be y_Be_dividePlain y_Be_dividePlain : Cond) ∈ wA := inP 15 (by decide +kernel) rfl
theorem se_Be_isNotLess : (.selects R_Be y_Be_isNotLess y_Be_isNotLess : Cond) ∈ wA := inP 16 (by decide +kernel) rfl
theorem se_Be_guessWord : (.selects R_Be y_Be_guessWord y_Be_guessWord : Cond) ∈ wA := inP 17 (by decide +kernel) rfl
theorem se_Be_takeProduct : (.selects R_Be y_Be_takeProduct y_Be_takeProduct : Cond) ∈ wA := inP 18 (by decide +kernel) rfl
theorem se_Be_divideByHead : (.selects R_Be y_Be_divideByHead y_Be_divideByHead : Cond) ∈ wA := inP 19 (by decide +kernel) rfl
theorem se_Be_takeOne : (.selects R_Be y_Be_takeOne y_Be_takeOne : Cond) ∈ wA := inP 20 (by decide +kernel) rfl
theorem se_Ro_layStep : (.selects R_Ro y_Ro_layStep y_Ro_layStep : Cond) ∈ wA := inP 21 (by decide +kernel) rfl
theorem se_Ro_lengthen : (.selects R_Ro y_Ro_lengthen y_Ro_lengthen : Cond) ∈ wA := inP 22 (by decide +kernel) rfl
theorem se_Ro_lowerToFit : (.selects R_Ro y_Ro_lowerToFit y_Ro_lowerToFit : Cond) ∈ wA := inP 23 (by decide +kernel) rfl
theorem se_Lw_feedWord : (.selects R_Lw y_Lw_feedWord y_Lw_feedWord : Cond) ∈ wA := inP 24 (by decide +kernel) rfl
theorem se_Lw_hasDigitsAlone : (.selects R_Lw y_Lw_hasDigitsAlone y_Lw_hasDigitsAlone : Cond) ∈ wA := inP 25 (by decide +kernel) rfl
theorem se_Lw_readDigits : (.selects R_Lw y_Lw_readDigits y_Lw_readDigits : Cond) ∈ wA := inP 26 (by decide +kernel) rfl
theorem se_Lw_cutIntoPieces : (.selects R_Lw y_Lw_cutIntoPieces y_Lw_cutIntoPieces : Cond) ∈ wA := inP 27 (by decide +kernel) rfl
theorem se_Lw_countDigits : (.selects R_Lw y_Lw_countDigits y_Lw_countDigits : Cond) ∈ wA := inP 28 (by decide +kernel) rfl
theorem se_Lw_writeDigits : (.selects R_Lw y_Lw_writeDigits y_Lw_writeDigits : Cond) ∈ wA := inP 29 (by decide +kernel) rfl
theorem se_Mo_set0 : (.selects R_Mo y_Mo_set0 y_Mo_set0 : Cond) ∈ wA := inP 30 (by decide +kernel) rfl
theorem se_Mo_keep : (.selects R_Mo y_Mo_keep y_Mo_keep : Cond) ∈ wA := inP 31 (by decide +kernel) rfl
theorem se_Mo_copy0 : (.selects R_Mo y_Mo_copy0 y_Mo_copy0 : Cond) ∈ wA := inP 32 (by decide +kernel) rfl
theorem se_Mo_shift0 : (.selects R_Mo y_Mo_shift0 y_Mo_shift0 : Cond) ∈ wA := inP 33 (by decide +kernel) rfl
theorem se_Mn_trim : (.selects R_Mn y_Mn_trim y_Mn_trim : Cond) ∈ wA := inP 34 (by decide +kernel) rfl
theorem se_Mo_add0 : (.selects R_Mo y_Mo_add0 y_Mo_add0 : Cond) ∈ wA := inP 35 (by decide +kernel) rfl
theorem se_Mo_subtract0 : (.selects R_Mo y_Mo_subtract0 y_Mo_subtract0 : Cond) ∈ wA := inP 36 (by decide +kernel) rfl
theorem se_Mo_times0 : (.selects R_Mo y_Mo_times0 y_Mo_times0 : Cond) ∈ wA := inP 37 (by decide +kernel) rfl
theorem se_Mo_divide0 : (.selects R_Mo y_Mo_divide0 y_Mo_divide0 : Cond) ∈ wA := inP 38 (by decide +kernel) rfl
theorem se_Mo_divide_NNN : (.selects R_Mo y_Mo_divide_NNN y_Mo_divide_NNN : Cond) ∈ wA := inP 39 (by decide +kernel) rfl
theorem se_Mo_takesTooMuch : (.selects R_Mo y_Mo_takesTooMuch y_Mo_takesTooMuch : Cond) ∈ wA := inP 40 (by decide +kernel) rfl
theorem se_Mo_power0 : (.selects R_Mo y_Mo_power0 y_Mo_power0 : Cond) ∈ wA := inP 41 (by decide +kernel) rfl
theorem se_Mo_raise : (.selects R_Mo y_Mo_raise y_Mo_raise : Cond) ∈ wA := inP 42 (by decide +kernel) rfl
theorem se_Mo_root0 : (.selects R_Mo y_Mo_root0 y_Mo_root0 : Cond) ∈ wA := inP 43 (by decide +kernel) rfl
theorem se_Mo_rootOf : (.selects R_Mo y_Mo_rootOf y_Mo_rootOf : Cond) ∈ wA := inP 44 (by decide +kernel) rfl
theorem se_Mo_compare0 : (.selects R_Mo y_Mo_compare0 y_Mo_compare0 : Cond) ∈ wA := inP 45 (by decide +kernel) rfl
theorem se_Mo_bits0 : (.selects R_Mo y_Mo_bits0 y_Mo_bits0 : Cond) ∈ wA := inP 46 (by decide +kernel) rfl
theorem se_Mo_word0 : (.selects R_Mo y_Mo_word0 y_Mo_word0 : Cond) ∈ wA := inP 47 (by decide +kernel) rfl
theorem se_Mo_feed0 : (.selects R_Mo y_Mo_feed0 y_Mo_feed0 : Cond) ∈ wA := inP 48 (by decide +kernel) rfl
theorem se_Mo_end0 : (.selects R_Mo y_Mo_end0 y_Mo_end0 : Cond) ∈ wA := inP 49 (by decide +kernel) rfl
theorem se_Mo_read0 : (.selects R_Mo y_Mo_read0 y_Mo_read0 : Cond) ∈ wA := inP 50 (by decide +kernel) rfl
theorem se_Mo_write0 : (.selects R_Mo y_Mo_write0 y_Mo_write0 : Cond) ∈ wA := inP 51 (by decide +kernel) rfl
theorem se_Mo_octet0 : (.selects R_Mo y_Mo_octet0 y_Mo_octet0 : Cond) ∈ wA := inP 52 (by decide +kernel) rfl
end
section
/-! DECODE ROWS of Be (by program) -/
theorem d_Be_init_0 : decode b_Be_init 0 = .ok (.aload_n 0, 1) := by decide +kernel
theorem d_Be_init_1 : decode b_Be_init 1 = .ok (.invokespecial 3, 3) := by decide +kernel
theorem d_Be_init_4 : decode b_Be_init 4 = .ok (.aload_n 0, 1) := by decide +kernel
theorem d_Be_init_5 : decode b_Be_init 5 = .ok (.sipush 28672, 3) := by decide +kernel
theorem d_Be_init_8 : decode b_Be_init 8 = .ok (.newarray .int, 2) := by decide +kernel
theorem d_Be_init_10 : decode b_Be_init 10 = .ok (.putfield 11, 3) := by decide +kernel
theorem d_Be_init_13 : decode b_Be_init 13 = .ok (.return_, 1) := by decide +kernel
theorem d_Be_putProduct_0 : decode b_Be_putProduct 0 = .ok (.aload_n 2, 1) := by decide +kernel
theorem d_Be_putProduct_1 : decode b_Be_putProduct 1 = .ok (.getfield 15, 3) := by decide +kernel
theorem d_Be_putProduct_4 : decode b_Be_putProduct 4 = .ok (.istore 4, 2) := by decide +kernel
theorem d_Be_putProduct_6 : decode b_Be_putProduct 6 = .ok (.aload_n 3, 1) := by decide +kernel
theorem d_Be_putProduct_7 : decode b_Be_putProduct 7 = .ok (.getfield 15, 3) := by decide +kernel
theorem d_Be_putProduct_10 : decode b_Be_putProduct 10 = .ok (.istore 5, 2) := by decide +kernel
theorem d_Be_putProduct_12 : decode b_Be_putProduct 12 = .ok (.iload 4, 2) := by decide +kernel
theorem d_Be_putProduct_14 : decode b_Be_putProduct 14 = .ok (.ifCond .eq 8, 3) := by decide +kernel
theorem d_Be_putProduct_17 : decode b_Be_putProduct 17 = .ok (.iload 5, 2) := by decide +kernel
theorem d_Be_putProduct_19 : decode b_Be_putProduct 19 = .ok (.ifCond .ne 9, 3) := by decide +kernel
theorem d_Be_putProduct_22 : decode b_Be_putProduct 22 = .ok (.aload_n 1, 1) := by decide +kernel
theorem d_Be_putProduct_23 : decode b_Be_putProduct 23 = .ok (.iconst 0, 1) := by decide +kernel
theorem d_Be_putProduct_24 : decode b_Be_putProduct 24 = .ok (.putfield 15, 3) := by decide +kernel
theorem d_Be_putProduct_27 : decode b_Be_putProduct 27 = .ok (.return_, 1) := by decide +kernel
theorem d_Be_putProduct_28 : decode b_Be_putProduct 28 = .ok (.aload_n 2, 1) := by decide +kernel
theorem d_Be_putProduct_29 : decode b_Be_putProduct 29 = .ok (.aload_n 3, 1) := by decide +kernel
theorem d_Be_putProduct_30 : decode b_Be_putProduct 30 = .ok (.if_acmp .ne 7, 3) := by decide +kernel
theorem d_Be_putProduct_33 : decode b_Be_putProduct 33 = .ok (.iconst 0, 1) := by decide +kernel
theorem d_Be_putProduct_34 : decode b_Be_putProduct 34 = .ok (.goto 5, 3) := by decide +kernel
theorem d_Be_putProduct_37 : decode b_Be_putProduct 37 = .ok (.iload 4, 2) := by decide +kernel
theorem d_Be_putProduct_39 : decode b_Be_putProduct 39 = .ok (.istore 6, 2) := by decide +kernel
theorem d_Be_putProduct_41 : decode b_Be_putProduct 41 = .ok (.iload 4, 2) := by decide +kernel
theorem d_Be_putProduct_43 : decode b_Be_putProduct 43 = .ok (.iload 5, 2) := by decide +kernel
theorem d_Be_putProduct_45 : decode b_Be_putProduct 45 = .ok (.iadd, 1) := by decide +kernel
theorem d_Be_putProduct_46 : decode b_Be_putProduct 46 = .ok (.istore 7, 2) := by decide +kernel
theorem d_Be_putProduct_48 : decode b_Be_putProduct 48 = .ok (.aload_n 2, 1) := by decide +kernel
theorem d_Be_putProduct_49 : decode b_Be_putProduct 49 = .ok (.getfield 21, 3) := by decide +kernel
theorem d_Be_putProduct_52 : decode b_Be_putProduct 52 = .ok (.iconst 0, 1) := by decide +kernel
theorem d_Be_putProduct_53 : decode b_Be_putProduct 53 = .ok (.aload_n 0, 1) := by decide +kernel
theorem d_Be_putProduct_54 : decode b_Be_putProduct 54 = .ok (.getfield 11, 3) := by decide +kernel
theorem d_Be_putProduct_57 : decode b_Be_putProduct 57 = .ok (.iconst 0, 1) := by decide +kernel
theorem d_Be_putProduct_58 : decode b_Be_putProduct 58 = .ok (.iload 4, 2) := by decide +kernel
theorem d_Be_putProduct_60 : decode b_Be_putProduct 60 = .ok (.invokestatic 24, 3) := by decide +kernel
theorem d_Be_putProduct_63 : decode b_Be_putProduct 63 = .ok (.aload_n 3, 1) := by decide +kernel
theorem d_Be_putProduct_64 : decode b_Be_putProduct 64 = .ok (.getfield 21, 3) := by decide +kernel
theorem d_Be_putProduct_67 : decode b_Be_putProduct 67 = .ok (.iconst 0, 1) := by decide +kernel
theorem d_Be_putProduct_68 : decode b_Be_putProduct 68 = .ok (.aload_n 0, 1) := by decide +kernel
theorem d_Be_putProduct_69 : decode b_Be_putProduct 69 = .ok (.getfield 11, 3) := by decide +kernel
theorem d_Be_putProduct_72 : decode b_Be_putProduct 72 = .ok (.iload 6, 2) := by decide +kernel
theorem d_Be_putProduct_74 : decode b_Be_putProduct 74 = .ok (.iload 5, 2) := by decide +kernel
theorem d_Be_putProduct_76 : decode b_Be_putProduct 76 = .ok (.invokestatic 24, 3) := by decide +kernel
theorem d_Be_putProduct_79 : decode b_Be_putProduct 79 = .ok (.aload_n 0, 1) := by decide +kernel
theorem d_Be_putProduct_80 : decode b_Be_putProduct 80 = .ok (.iload 7, 2) := by decide +kernel
theorem d_Be_putProduct_82 : decode b_Be_putProduct 82 = .ok (.iconst 0, 1) := by decide +kernel
theorem d_Be_putProduct_83 : decode b_Be_putProduct 83 = .ok (.iload 4, 2) := by decide +kernel
theorem d_Be_putProduct_85 : decode b_Be_putProduct 85 = .ok (.iload 6, 2) := by decide +kernel
theorem d_Be_putProduct_87 : decode b_Be_putProduct 87 = .ok (.iload 5, 2) := by decide +kernel
theorem d_Be_putProduct_89 : decode b_Be_putProduct 89 = .ok (.iload 7, 2) := by decide +kernel
theorem d_Be_putProduct_91 : decode b_Be_putProduct 91 = .ok (.iload 4, 2) := by decide +kernel
theorem d_Be_putProduct_93 : decode b_Be_putProduct 93 = .ok (.iadd, 1) := by decide +kernel
theorem d_Be_putProduct_94 : decode b_Be_putProduct 94 = .ok (.iload 5, 2) := by decide +kernel
theorem d_Be_putProduct_96 : decode b_Be_putProduct 96 = .ok (.iadd, 1) := by decide +kernel
theorem d_Be_putProduct_97 : decode b_Be_putProduct 97 = .ok (.bipush 20, 2) := by decide +kernel
theorem d_Be_putProduct_99 : decode b_Be_putProduct 99 = .ok (.invokevirtual 30, 3) := by decide +kernel
theorem d_Be_putProduct_102 : decode b_Be_putProduct 102 = .ok (.aload_n 0, 1) := by decide +kernel
theorem d_Be_putProduct_103 : decode b_Be_putProduct 103 = .ok (.getfield 11, 3) := by decide +kernel
theorem d_Be_putProduct_106 : decode b_Be_putProduct 106 = .ok (.iload 7, 2) := by decide +kernel
theorem d_Be_putProduct_108 : decode b_Be_putProduct 108 = .ok (.aload_n 1, 1) := by decide +kernel
theorem d_Be_putProduct_109 : decode b_Be_putProduct 109 = .ok (.getfield 21, 3) := by decide +kernel
theorem d_Be_putProduct_112 : decode b_Be_putProduct 112 = .ok (.iconst 0, 1) := by decide +kernel
theorem d_Be_putProduct_113 : decode b_Be_putProduct 113 = .ok (.iload 4, 2) := by decide +kernel
theorem d_Be_putProduct_115 : decode b_Be_putProduct 115 = .ok (.iload 5, 2) := by decide +kernel
theorem d_Be_putProduct_117 : decode b_Be_putProduct 117 = .ok (.iadd, 1) := by decide +kernel
theorem d_Be_putProduct_118 : decode b_Be_putProduct 118 = .ok (.invokestatic 24, 3) := by decide +kernel
theorem d_Be_putProduct_121 : decode b_Be_putProduct 121 = .ok (.aload_n 1, 1) := by decide +kernel
theorem d_Be_putProduct_122 : decode b_Be_putProduct 122 = .ok (.iload 4, 2) := by decide +kernel
theorem d_Be_putProduct_124 : decode b_Be_putProduct 124 = .ok (.iload 5, 2) := by decide +kernel
theorem d_Be_putProduct_126 : decode b_Be_putProduct 126 = .ok (.iadd, 1) := by decide +kernel
theorem d_Be_putProduct_127 : decode b_Be_putProduct 127 = .ok (.invokevirtual 34, 3) := by decide +kernel
theorem d_Be_putProduct_130 : decode b_Be_putProduct 130 = .ok (.return_, 1) := by decide +kernel
theorem d_Be_multiply_0 : decode b_Be_multiply 0 = .ok (.iload_n 3, 1) := by decide +kernel
theorem d_Be_multiply_1 : decode b_Be_multiply 1 = .ok (.iload 5, 2) := by decide +kernel
theorem d_Be_multiply_3 : decode b_Be_multiply 3 = .ok (.invokestatic 54, 3) := by decide +kernel
theorem d_Be_multiply_6 : decode b_Be_multiply 6 = .ok (.iconst 1, 1) := by decide +kernel
theorem d_Be_multiply_7 : decode b_Be_multiply 7 = .ok (.iadd, 1) := by decide +kernel
theorem d_Be_multiply_8 : decode b_Be_multiply 8 = .ok (.iconst 2, 1) := by decide +kernel
theorem d_Be_multiply_9 : decode b_Be_multiply 9 = .ok (.idiv, 1) := by decide +kernel
theorem d_Be_multiply_10 : decode b_Be_multiply 10 = .ok (.istore 8, 2) := by decide +kernel
theorem d_Be_multiply_12 : decode b_Be_multiply 12 = .ok (.iload_n 3, 1) := by decide +kernel
theorem d_Be_multiply_13 : decode b_Be_multiply 13 = .ok (.iload 5, 2) := by decide +kernel
theorem d_Be_multiply_15 : decode b_Be_multiply 15 = .ok (.invokestatic 72, 3) := by decide +kernel
theorem d_Be_multiply_18 : decode b_Be_multiply 18 = .ok (.bipush 40, 2) := by decide +kernel
theorem d_Be_multiply_20 : decode b_Be_multiply 20 = .ok (.if_icmp .lt 8, 3) := by decide +kernel
theorem d_Be_multiply_23 : decode b_Be_multiply 23 = .ok (.iload 7, 2) := by decide +kernel
theorem d_Be_multiply_25 : decode b_Be_multiply 25 = .ok (.ifCond .ne 7, 3) := by decide +kernel
theorem d_Be_multiply_28 : decode b_Be_multiply 28 = .ok (.iconst 1, 1) := by decide +kernel
theorem d_Be_multiply_29 : decode b_Be_multiply 29 = .ok (.goto 4, 3) := by decide +kernel
theorem d_Be_multiply_32 : decode b_Be_multiply 32 = .ok (.iconst 0, 1) := by decide +kernel
theorem d_Be_multiply_33 : decode b_Be_multiply 33 = .ok (.istore 9, 2) := by decide +kernel
theorem d_Be_multiply_35 : decode b_Be_multiply 35 = .ok (.iload 9, 2) := by decide +kernel
theorem d_Be_multiply_37 : decode b_Be_multiply 37 = .ok (.ifCond .eq 19, 3) := by decide +kernel
theorem d_Be_multiply_40 : decode b_Be_multiply 40 = .ok (.iload_n 2, 1) := by decide +kernel
theorem d_Be_multiply_41 : decode b_Be_multiply 41 = .ok (.iload 4, 2) := by decide +kernel
theorem d_Be_multiply_43 : decode b_Be_multiply 43 = .ok (.if_icmp .ne 13, 3) := by decide +kernel
theorem d_Be_multiply_46 : decode b_Be_multiply 46 = .ok (.aload_n 0, 1) := by decide +kernel
theorem d_Be_multiply_47 : decode b_Be_multiply 47 = .ok (.iload_n 1, 1) := by decide +kernel
theorem d_Be_multiply_48 : decode b_Be_multiply 48 = .ok (.iload_n 2, 1) := by decide +kernel
theorem d_Be_multiply_49 : decode b_Be_multiply 49 = .ok (.iload_n 3, 1) := by decide +kernel
theorem d_Be_multiply_50 : decode b_Be_multiply 50 = .ok (.invokevirtual 79, 3) := by decide +kernel
theorem d_Be_multiply_53 : decode b_Be_multiply 53 = .ok (.goto 92, 3) := by decide +kernel
theorem d_Be_multiply_56 : decode b_Be_multiply 56 = .ok (.iload 9, 2) := by decide +kernel
theorem d_Be_multiply_58 : decode b_Be_multiply 58 = .ok (.ifCond .eq 17, 3) := by decide +kernel
theorem d_Be_multiply_61 : decode b_Be_multiply 61 = .ok (.aload_n 0, 1) := by decide +kernel
theorem d_Be_multiply_62 : decode b_Be_multiply 62 = .ok (.iload_n 1, 1) := by decide +kernel
theorem d_Be_multiply_63 : decode b_Be_multiply 63 = .ok (.iload_n 2, 1) := by decide +kernel
theorem d_Be_multiply_64 : decode b_Be_multiply 64 = .ok (.iload_n 3, 1) := by decide +kernel
theorem d_Be_multiply_65 : decode b_Be_multiply 65 = .ok (.iload 4, 2) := by decide +kernel
theorem d_Be_multiply_67 : decode b_Be_multiply 67 = .ok (.iload 5, 2) := by decide +kernel
theorem d_Be_multiply_69 : decode b_Be_multiply 69 = .ok (.invokevirtual 83, 3) := by decide +kernel
theorem d_Be_multiply_72 : decode b_Be_multiply 72 = .ok (.goto 73, 3) := by decide +kernel
theorem d_Be_multiply_75 : decode b_Be_multiply 75 = .ok (.iload_n 3, 1) := by decide +kernel
theorem d_Be_multiply_76 : decode b_Be_multiply 76 = .ok (.iload 8, 2) := by decide +kernel
theorem d_Be_multiply_78 : decode b_Be_multiply 78 = .ok (.if_icmp .gt 23, 3) := by decide +kernel
theorem d_Be_multiply_81 : decode b_Be_multiply 81 = .ok (.aload_n 0, 1) := by decide +kernel
theorem d_Be_multiply_82 : decode b_Be_multiply 82 = .ok (.iload_n 1, 1) := by decide +kernel
theorem d_Be_multiply_83 : decode b_Be_multiply 83 = .ok (.iload 4, 2) := by decide +kernel
theorem d_Be_multiply_85 : decode b_Be_multiply 85 = .ok (.iload 5, 2) := by decide +kernel
theorem d_Be_multiply_87 : decode b_Be_multiply 87 = .ok (.iload_n 2, 1) := by decide +kernel
theorem d_Be_multiply_88 : decode b_Be_multiply 88 = .ok (.iload_n 3, 1) := by decide +kernel
theorem d_Be_multiply_89 : decode b_Be_multiply 89 = .ok (.iload 6, 2) := by decide +kernel
theorem d_Be_multiply_91 : decode b_Be_multiply 91 = .ok (.iload 7, 2) := by decide +kernel
theorem d_Be_multiply_93 : decode b_Be_multiply 93 = .ok (.iconst 1, 1) := by decide +kernel
theorem d_Be_multiply_94 : decode b_Be_multiply 94 = .ok (.isub, 1) := by decide +kernel
theorem d_Be_multiply_95 : decode b_Be_multiply 95 = .ok (.invokevirtual 87, 3) := by decide +kernel
theorem d_Be_multiply_98 : decode b_Be_multiply 98 = .ok (.goto 47, 3) := by decide +kernel
theorem d_Be_multiply_101 : decode b_Be_multiply 101 = .ok (.iload 5, 2) := by decide +kernel
theorem d_Be_multiply_103 : decode b_Be_multiply 103 = .ok (.iload 8, 2) := by decide +kernel
theorem d_Be_multiply_105 : decode b_Be_multiply 105 = .ok (.if_icmp .gt 23, 3) := by decide +kernel
theorem d_Be_multiply_108 : decode b_Be_multiply 108 = .ok (.aload_n 0, 1) := by decide +kernel
theorem d_Be_multiply_109 : decode b_Be_multiply 109 = .ok (.iload_n 1, 1) := by decide +kernel
theorem d_Be_multiply_110 : decode b_Be_multiply 110 = .ok (.iload_n 2, 1) := by decide +kernel
theorem d_Be_multiply_111 : decode b_Be_multiply 111 = .ok (.iload_n 3, 1) := by decide +kernel
theorem d_Be_multiply_112 : decode b_Be_multiply 112 = .ok (.iload 4, 2) := by decide +kernel
theorem d_Be_multiply_114 : decode b_Be_multiply 114 = .ok (.iload 5, 2) := by decide +kernel
theorem d_Be_multiply_116 : decode b_Be_multiply 116 = .ok (.iload 6, 2) := by decide +kernel
theorem d_Be_multiply_118 : decode b_Be_multiply 118 = .ok (.iload 7, 2) := by decide +kernel
theorem d_Be_multiply_120 : decode b_Be_multiply 120 = .ok (.iconst 1, 1) := by decide +kernel
theorem d_Be_multiply_121 : decode b_Be_multiply 121 = .ok (.isub, 1) := by decide +kernel
theorem d_Be_multiply_122 : decode b_Be_multiply 122 = .ok (.invokevirtual 87, 3) := by decide +kernel
theorem d_Be_multiply_125 : decode b_Be_multiply 125 = .ok (.goto 20, 3) := by decide +kernel
theorem d_Be_multiply_128 : decode b_Be_multiply 128 = .ok (.aload_n 0, 1) := by decide +kernel
theorem d_Be_multiply_129 : decode b_Be_multiply 129 = .ok (.iload_n 1, 1) := by decide +kernel
theorem d_Be_multiply_130 : decode b_Be_multiply 130 = .ok (.iload_n 2, 1) := by decide +kernel
theorem d_Be_multiply_131 : decode b_Be_multiply 131 = .ok (.iload_n 3, 1) := by decide +kernel
theorem d_Be_multiply_132 : decode b_Be_multiply 132 = .ok (.iload 4, 2) := by decide +kernel
theorem d_Be_multiply_134 : decode b_Be_multiply 134 = .ok (.iload 5, 2) := by decide +kernel
theorem d_Be_multiply_136 : decode b_Be_multiply 136 = .ok (.iload 6, 2) := by decide +kernel
theorem d_Be_multiply_138 : decode b_Be_multiply 138 = .ok (.iload 7, 2) := by decide +kernel
theorem d_Be_multiply_140 : decode b_Be_multiply 140 = .ok (.iconst 1, 1) := by decide +kernel
theorem d_Be_multiply_141 : decode b_Be_multiply 141 = .ok (.isub, 1) := by decide +kernel
theorem d_Be_multiply_142 : decode b_Be_multiply 142 = .ok (.invokevirtual 90, 3) := by decide +kernel
theorem d_Be_multiply_145 : decode b_Be_multiply 145 = .ok (.return_, 1) := by decide +kernel
theorem d_Be_squarePlain_0 : decode b_Be_squarePlain 0 = .ok (.aload_n 0, 1) := by decide +kernel
theorem d_Be_squarePlain_1 : decode b_Be_squarePlain 1 = .ok (.getfield 11, 3) := by decide +kernel
theorem d_Be_squarePlain_4 : decode b_Be_squarePlain 4 = .ok (.astore 4, 2) := by decide +kernel
theorem d_Be_squarePlain_6 : decode b_Be_squarePlain 6 = .ok (.aload 4, 2) := by decide +kernel
theorem d_Be_squarePlain_8 : decode b_Be_squarePlain 8 = .ok (.iload_n 1, 1) := by decide +kernel
theorem d_Be_squarePlain_9 : decode b_Be_squarePlain 9 = .ok (.iload_n 1, 1) := by decide +kernel
theorem d_Be_squarePlain_10 : decode b_Be_squarePlain 10 = .ok (.iconst 2, 1) := by decide +kernel
theorem d_Be_squarePlain_11 : decode b_Be_squarePlain 11 = .ok (.iload_n 3, 1) := by decide +kernel
theorem d_Be_squarePlain_12 : decode b_Be_squarePlain 12 = .ok (.imul, 1) := by decide +kernel
theorem d_Be_squarePlain_13 : decode b_Be_squarePlain 13 = .ok (.iadd, 1) := by decide +kernel
theorem d_Be_squarePlain_14 : decode b_Be_squarePlain 14 = .ok (.iconst 0, 1) := by decide +kernel
theorem d_Be_squarePlain_15 : decode b_Be_squarePlain 15 = .ok (.invokestatic 93, 3) := by decide +kernel
theorem d_Be_squarePlain_18 : decode b_Be_squarePlain 18 = .ok (.iconst 0, 1) := by decide +kernel
theorem d_Be_squarePlain_19 : decode b_Be_squarePlain 19 = .ok (.istore 5, 2) := by decide +kernel
theorem d_Be_squarePlain_21 : decode b_Be_squarePlain 21 = .ok (.iload 5, 2) := by decide +kernel
theorem d_Be_squarePlain_23 : decode b_Be_squarePlain 23 = .ok (.iload_n 3, 1) := by decide +kernel
theorem d_Be_squarePlain_24 : decode b_Be_squarePlain 24 = .ok (.if_icmp .ge 54, 3) := by decide +kernel
theorem d_Be_squarePlain_27 : decode b_Be_squarePlain 27 = .ok (.aload 4, 2) := by decide +kernel
theorem d_Be_squarePlain_29 : decode b_Be_squarePlain 29 = .ok (.iload_n 1, 1) := by decide +kernel
theorem d_Be_squarePlain_30 : decode b_Be_squarePlain 30 = .ok (.iload_n 3, 1) := by decide +kernel
theorem d_Be_squarePlain_31 : decode b_Be_squarePlain 31 = .ok (.iadd, 1) := by decide +kernel
theorem d_Be_squarePlain_32 : decode b_Be_squarePlain 32 = .ok (.iload 5, 2) := by decide +kernel
theorem d_Be_squarePlain_34 : decode b_Be_squarePlain 34 = .ok (.iadd, 1) := by decide +kernel
theorem d_Be_squarePlain_35 : decode b_Be_squarePlain 35 = .ok (.aload_n 0, 1) := by decide +kernel
theorem d_Be_squarePlain_36 : decode b_Be_squarePlain 36 = .ok (.iload_n 1, 1) := by decide +kernel
theorem d_Be_squarePlain_37 : decode b_Be_squarePlain 37 = .ok (.iconst 2, 1) := by decide +kernel
theorem d_Be_squarePlain_38 : decode b_Be_squarePlain 38 = .ok (.iload 5, 2) := by decide +kernel
theorem d_Be_squarePlain_40 : decode b_Be_squarePlain 40 = .ok (.imul, 1) := by decide +kernel
theorem d_Be_squarePlain_41 : decode b_Be_squarePlain 41 = .ok (.iadd, 1) := by decide +kernel
theorem d_Be_squarePlain_42 : decode b_Be_squarePlain 42 = .ok (.iconst 1, 1) := by decide +kernel
theorem d_Be_squarePlain_43 : decode b_Be_squarePlain 43 = .ok (.iadd, 1) := by decide +kernel
theorem d_Be_squarePlain_44 : decode b_Be_squarePlain 44 = .ok (.iload_n 2, 1) := by decide +kernel
theorem d_Be_squarePlain_45 : decode b_Be_squarePlain 45 = .ok (.iload 5, 2) := by decide +kernel
theorem d_Be_squarePlain_47 : decode b_Be_squarePlain 47 = .ok (.iadd, 1) := by decide +kernel
theorem d_Be_squarePlain_48 : decode b_Be_squarePlain 48 = .ok (.iconst 1, 1) := by decide +kernel
theorem d_Be_squarePlain_49 : decode b_Be_squarePlain 49 = .ok (.iadd, 1) := by decide +kernel
theorem d_Be_squarePlain_50 : decode b_Be_squarePlain 50 = .ok (.iload_n 3, 1) := by decide +kernel
theorem d_Be_squarePlain_51 : decode b_Be_squarePlain 51 = .ok (.iconst 1, 1) := by decide +kernel
theorem d_Be_squarePlain_52 : decode b_Be_squarePlain 52 = .ok (.isub, 1) := by decide +kernel
theorem d_Be_squarePlain_53 : decode b_Be_squarePlain 53 = .ok (.iload 5, 2) := by decide +kernel
theorem d_Be_squarePlain_55 : decode b_Be_squarePlain 55 = .ok (.isub, 1) := by decide +kernel
theorem d_Be_squarePlain_56 : decode b_Be_squarePlain 56 = .ok (.aload 4, 2) := by decide +kernel
theorem d_Be_squarePlain_58 : decode b_Be_squarePlain 58 = .ok (.iload_n 2, 1) := by decide +kernel
theorem d_Be_squarePlain_59 : decode b_Be_squarePlain 59 = .ok (.iload 5, 2) := by decide +kernel
theorem d_Be_squarePlain_61 : decode b_Be_squarePlain 61 = .ok (.iadd, 1) := by decide +kernel
theorem d_Be_squarePlain_62 : decode b_Be_squarePlain 62 = .ok (.iaload, 1) := by decide +kernel
theorem d_Be_squarePlain_63 : decode b_Be_squarePlain 63 = .ok (.i2l, 1) := by decide +kernel
theorem d_Be_squarePlain_64 : decode b_Be_squarePlain 64 = .ok (.ldc2_w 99, 3) := by decide +kernel
theorem d_Be_squarePlain_67 : decode b_Be_squarePlain 67 = .ok (.land, 1) := by decide +kernel
theorem d_Be_squarePlain_68 : decode b_Be_squarePlain 68 = .ok (.invokevirtual 101, 3) := by decide +kernel
theorem d_Be_squarePlain_71 : decode b_Be_squarePlain 71 = .ok (.iastore, 1) := by decide +kernel
theorem d_Be_squarePlain_72 : decode b_Be_squarePlain 72 = .ok (.iinc 5 1, 3) := by decide +kernel
theorem d_Be_squarePlain_75 : decode b_Be_squarePlain 75 = .ok (.goto (-54), 3) := by decide +kernel
theorem d_Be_squarePlain_78 : decode b_Be_squarePlain 78 = .ok (.lconst 0, 1) := by decide +kernel
theorem d_Be_squarePlain_79 : decode b_Be_squarePlain 79 = .ok (.lstore 5, 2) := by decide +kernel
theorem d_Be_squarePlain_81 : decode b_Be_squarePlain 81 = .ok (.iconst 0, 1) := by decide +kernel
theorem d_Be_squarePlain_82 : decode b_Be_squarePlain 82 = .ok (.istore 7, 2) := by decide +kernel
theorem d_Be_squarePlain_84 : decode b_Be_squarePlain 84 = .ok (.iload 7, 2) := by decide +kernel
theorem d_Be_squarePlain_86 : decode b_Be_squarePlain 86 = .ok (.iload_n 3, 1) := by decide +kernel
theorem d_Be_squarePlain_87 : decode b_Be_squarePlain 87 = .ok (.if_icmp .ge 123, 3) := by decide +kernel
theorem d_Be_squarePlain_90 : decode b_Be_squarePlain 90 = .ok (.aload 4, 2) := by decide +kernel
theorem d_Be_squarePlain_92 : decode b_Be_squarePlain 92 = .ok (.iload_n 2, 1) := by decide +kernel
theorem d_Be_squarePlain_93 : decode b_Be_squarePlain 93 = .ok (.iload 7, 2) := by decide +kernel
theorem d_Be_squarePlain_95 : decode b_Be_squarePlain 95 = .ok (.iadd, 1) := by decide +kernel
theorem d_Be_squarePlain_96 : decode b_Be_squarePlain 96 = .ok (.iaload, 1) := by decide +kernel
theorem d_Be_squarePlain_97 : decode b_Be_squarePlain 97 = .ok (.i2l, 1) := by decide +kernel
theorem d_Be_squarePlain_98 : decode b_Be_squarePlain 98 = .ok (.ldc2_w 99, 3) := by decide +kernel
theorem d_Be_squarePlain_101 : decode b_Be_squarePlain 101 = .ok (.land, 1) := by decide +kernel
theorem d_Be_squarePlain_102 : decode b_Be_squarePlain 102 = .ok (.lstore 8, 2) := by decide +kernel
theorem d_Be_squarePlain_104 : decode b_Be_squarePlain 104 = .ok (.lload 8, 2) := by decide +kernel
theorem d_Be_squarePlain_106 : decode b_Be_squarePlain 106 = .ok (.lload 8, 2) := by decide +kernel
theorem d_Be_squarePlain_108 : decode b_Be_squarePlain 108 = .ok (.lmul, 1) := by decide +kernel
theorem d_Be_squarePlain_109 : decode b_Be_squarePlain 109 = .ok (.lstore 10, 2) := by decide +kernel
theorem d_Be_squarePlain_111 : decode b_Be_squarePlain 111 = .ok (.lload 5, 2) := by decide +kernel
theorem d_Be_squarePlain_113 : decode b_Be_squarePlain 113 = .ok (.aload 4, 2) := by decide +kernel
theorem d_Be_squarePlain_115 : decode b_Be_squarePlain 115 = .ok (.iload_n 1, 1) := by decide +kernel
theorem d_Be_squarePlain_116 : decode b_Be_squarePlain 116 = .ok (.iconst 2, 1) := by decide +kernel
theorem d_Be_squarePlain_117 : decode b_Be_squarePlain 117 = .ok (.iload 7, 2) := by decide +kernel
theorem d_Be_squarePlain_119 : decode b_Be_squarePlain 119 = .ok (.imul, 1) := by decide +kernel
theorem d_Be_squarePlain_120 : decode b_Be_squarePlain 120 = .ok (.iadd, 1) := by decide +kernel
theorem d_Be_squarePlain_121 : decode b_Be_squarePlain 121 = .ok (.iaload, 1) := by decide +kernel
theorem d_Be_squarePlain_122 : decode b_Be_squarePlain 122 = .ok (.i2l, 1) := by decide +kernel
theorem d_Be_squarePlain_123 : decode b_Be_squarePlain 123 = .ok (.ldc2_w 99, 3) := by decide +kernel
theorem d_Be_squarePlain_126 : decode b_Be_squarePlain 126 = .ok (.land, 1) := by decide +kernel
theorem d_Be_squarePlain_127 : decode b_Be_squarePlain 127 = .ok (.iconst 1, 1) := by decide +kernel
theorem d_Be_squarePlain_128 : decode b_Be_squarePlain 128 = .ok (.lshl, 1) := by decide +kernel
theorem d_Be_squarePlain_129 : decode b_Be_squarePlain 129 = .ok (.lload 10, 2) := by decide +kernel
theorem d_Be_squarePlain_131 : decode b_Be_squarePlain 131 = .ok (.ldc2_w 99, 3) := by decide +kernel
theorem d_Be_squarePlain_134 : decode b_Be_squarePlain 134 = .ok (.land, 1) := by decide +kernel
theorem d_Be_squarePlain_135 : decode b_Be_squarePlain 135 = .ok (.ladd, 1) := by decide +kernel
theorem d_Be_squarePlain_136 : decode b_Be_squarePlain 136 = .ok (.ladd, 1) := by decide +kernel
theorem d_Be_squarePlain_137 : decode b_Be_squarePlain 137 = .ok (.lstore 5, 2) := by decide +kernel
theorem d_Be_squarePlain_139 : decode b_Be_squarePlain 139 = .ok (.aload 4, 2) := by decide +kernel
theorem d_Be_squarePlain_141 : decode b_Be_squarePlain 141 = .ok (.iload_n 1, 1) := by decide +kernel
theorem d_Be_squarePlain_142 : decode b_Be_squarePlain 142 = .ok (.iconst 2, 1) := by decide +kernel
theorem d_Be_squarePlain_143 : decode b_Be_squarePlain 143 = .ok (.iload 7, 2) := by decide +kernel
theorem d_Be_squarePlain_145 : decode b_Be_squarePlain 145 = .ok (.imul, 1) := by decide +kernel
theorem d_Be_squarePlain_146 : decode b_Be_squarePlain 146 = .ok (.iadd, 1) := by decide +kernel
theorem d_Be_squarePlain_147 : decode b_Be_squarePlain 147 = .ok (.lload 5, 2) := by decide +kernel
theorem d_Be_squarePlain_149 : decode b_Be_squarePlain 149 = .ok (.l2i, 1) := by decide +kernel
theorem d_Be_squarePlain_150 : decode b_Be_squarePlain 150 = .ok (.iastore, 1) := by decide +kernel
theorem d_Be_squarePlain_151 : decode b_Be_squarePlain 151 = .ok (.lload 5, 2) := by decide +kernel
theorem d_Be_squarePlain_153 : decode b_Be_squarePlain 153 = .ok (.bipush 32, 2) := by decide +kernel
theorem d_Be_squarePlain_155 : decode b_Be_squarePlain 155 = .ok (.lushr, 1) := by decide +kernel
theorem d_Be_squarePlain_156 : decode b_Be_squarePlain 156 = .ok (.aload 4, 2) := by decide +kernel
theorem d_Be_squarePlain_158 : decode b_Be_squarePlain 158 = .ok (.iload_n 1, 1) := by decide +kernel
theorem d_Be_squarePlain_159 : decode b_Be_squarePlain 159 = .ok (.iconst 2, 1) := by decide +kernel
theorem d_Be_squarePlain_160 : decode b_Be_squarePlain 160 = .ok (.iload 7, 2) := by decide +kernel
theorem d_Be_squarePlain_162 : decode b_Be_squarePlain 162 = .ok (.imul, 1) := by decide +kernel
theorem d_Be_squarePlain_163 : decode b_Be_squarePlain 163 = .ok (.iadd, 1) := by decide +kernel
theorem d_Be_squarePlain_164 : decode b_Be_squarePlain 164 = .ok (.iconst 1, 1) := by decide +kernel
theorem d_Be_squarePlain_165 : decode b_Be_squarePlain 165 = .ok (.iadd, 1) := by decide +kernel
theorem d_Be_squarePlain_166 : decode b_Be_squarePlain 166 = .ok (.iaload, 1) := by decide +kernel
theorem d_Be_squarePlain_167 : decode b_Be_squarePlain 167 = .ok (.i2l, 1) := by decide +kernel
theorem d_Be_squarePlain_168 : decode b_Be_squarePlain 168 = .ok (.ldc2_w 99, 3) := by decide +kernel
theorem d_Be_squarePlain_171 : decode b_Be_squarePlain 171 = .ok (.land, 1) := by decide +kernel
theorem d_Be_squarePlain_172 : decode b_Be_squarePlain 172 = .ok (.iconst 1, 1) := by decide +kernel
theorem d_Be_squarePlain_173 : decode b_Be_squarePlain 173 = .ok (.lshl, 1) := by decide +kernel
theorem d_Be_squarePlain_174 : decode b_Be_squarePlain 174 = .ok (.ladd, 1) := by decide +kernel
theorem d_Be_squarePlain_175 : decode b_Be_squarePlain 175 = .ok (.lload 10, 2) := by decide +kernel
theorem d_Be_squarePlain_177 : decode b_Be_squarePlain 177 = .ok (.bipush 32, 2) := by decide +kernel
theorem d_Be_squarePlain_179 : decode b_Be_squarePlain 179 = .ok (.lushr, 1) := by decide +kernel
theorem d_Be_squarePlain_180 : decode b_Be_squarePlain 180 = .ok (.ladd, 1) := by decide +kernel
theorem d_Be_squarePlain_181 : decode b_Be_squarePlain 181 = .ok (.lstore 5, 2) := by decide +kernel
theorem d_Be_squarePlain_183 : decode b_Be_squarePlain 183 = .ok (.aload 4, 2) := by decide +kernel
theorem d_Be_squarePlain_185 : decode b_Be_squarePlain 185 = .ok (.iload_n 1, 1) := by decide +kernel
theorem d_Be_squarePlain_186 : decode b_Be_squarePlain 186 = .ok (.iconst 2, 1) := by decide +kernel
theorem d_Be_squarePlain_187 : decode b_Be_squarePlain 187 = .ok (.iload 7, 2) := by decide +kernel
theorem d_Be_squarePlain_189 : decode b_Be_squarePlain 189 = .ok (.imul, 1) := by decide +kernel
theorem d_Be_squarePlain_190 : decode b_Be_squarePlain 190 = .ok (.iadd, 1) := by decide +kernel
theorem d_Be_squarePlain_191 : decode b_Be_squarePlain 191 = .ok (.iconst 1, 1) := by decide +kernel
theorem d_Be_squarePlain_192 : decode b_Be_squarePlain 192 = .ok (.iadd, 1) := by decide +kernel
theorem d_Be_squarePlain_193 : decode b_Be_squarePlain 193 = .ok (.lload 5, 2) := by decide +kernel
theorem d_Be_squarePlain_195 : decode b_Be_squarePlain 195 = .ok (.l2i, 1) := by decide +kernel
theorem d_Be_squarePlain_196 : decode b_Be_squarePlain 196 = .ok (.iastore, 1) := by decide +kernel
theorem d_Be_squarePlain_197 : decode b_Be_squarePlain 197 = .ok (.lload 5, 2) := by decide +kernel
theorem d_Be_squarePlain_199 : decode b_Be_squarePlain 199 = .ok (.bipush 32, 2) := by decide +kernel
theorem d_Be_squarePlain_201 : decode b_Be_squarePlain 201 = .ok (.lushr, 1) := by decide +kernel
theorem d_Be_squarePlain_202 : decode b_Be_squarePlain 202 = .ok (.lstore 5, 2) := by decide +kernel
theorem d_Be_squarePlain_204 : decode b_Be_squarePlain 204 = .ok (.iinc 7 1, 3) := by decide +kernel
theorem d_Be_squarePlain_207 : decode b_Be_squarePlain 207 = .ok (.goto (-123), 3) := by decide +kernel
theorem d_Be_squarePlain_210 : decode b_Be_squarePlain 210 = .ok (.return_, 1) := by decide +kernel
theorem d_Be_addProduct_0 : decode b_Be_addProduct 0 = .ok (.aload_n 0, 1) := by decide +kernel
theorem d_Be_addProduct_1 : decode b_Be_addProduct 1 = .ok (.getfield 11, 3) := by decide +kernel
theorem d_Be_addProduct_4 : decode b_Be_addProduct 4 = .ok (.astore 6, 2) := by decide +kernel
theorem d_Be_addProduct_6 : decode b_Be_addProduct 6 = .ok (.iload_n 2, 1) := by decide +kernel
theorem d_Be_addProduct_7 : decode b_Be_addProduct 7 = .ok (.iload_n 3, 1) := by decide +kernel
theorem d_Be_addProduct_8 : decode b_Be_addProduct 8 = .ok (.iadd, 1) := by decide +kernel
theorem d_Be_addProduct_9 : decode b_Be_addProduct 9 = .ok (.istore 7, 2) := by decide +kernel
theorem d_Be_addProduct_11 : decode b_Be_addProduct 11 = .ok (.iload_n 1, 1) := by decide +kernel
theorem d_Be_addProduct_12 : decode b_Be_addProduct 12 = .ok (.istore 8, 2) := by decide +kernel
theorem d_Be_addProduct_14 : decode b_Be_addProduct 14 = .ok (.lconst 0, 1) := by decide +kernel
theorem d_Be_addProduct_15 : decode b_Be_addProduct 15 = .ok (.lstore 9, 2) := by decide +kernel
theorem d_Be_addProduct_17 : decode b_Be_addProduct 17 = .ok (.iload_n 2, 1) := by decide +kernel
theorem d_Be_addProduct_18 : decode b_Be_addProduct 18 = .ok (.istore 11, 2) := by decide +kernel
theorem d_Be_addProduct_20 : decode b_Be_addProduct 20 = .ok (.iload 11, 2) := by decide +kernel
theorem d_Be_addProduct_22 : decode b_Be_addProduct 22 = .ok (.iload 7, 2) := by decide +kernel
theorem d_Be_addProduct_24 : decode b_Be_addProduct 24 = .ok (.if_icmp .ge 56, 3) := by decide +kernel
theorem d_Be_addProduct_27 : decode b_Be_addProduct 27 = .ok (.lload 9, 2) := by decide +kernel
theorem d_Be_addProduct_29 : decode b_Be_addProduct 29 = .ok (.aload 6, 2) := by decide +kernel
theorem d_Be_addProduct_31 : decode b_Be_addProduct 31 = .ok (.iload 11, 2) := by decide +kernel
theorem d_Be_addProduct_33 : decode b_Be_addProduct 33 = .ok (.iaload, 1) := by decide +kernel
theorem d_Be_addProduct_34 : decode b_Be_addProduct 34 = .ok (.i2l, 1) := by decide +kernel
theorem d_Be_addProduct_35 : decode b_Be_addProduct 35 = .ok (.ldc2_w 99, 3) := by decide +kernel
theorem d_Be_addProduct_38 : decode b_Be_addProduct 38 = .ok (.land, 1) := by decide +kernel
theorem d_Be_addProduct_39 : decode b_Be_addProduct 39 = .ok (.lload 4, 2) := by decide +kernel
theorem d_Be_addProduct_41 : decode b_Be_addProduct 41 = .ok (.lmul, 1) := by decide +kernel
theorem d_Be_addProduct_42 : decode b_Be_addProduct 42 = .ok (.aload 6, 2) := by decide +kernel
theorem d_Be_addProduct_44 : decode b_Be_addProduct 44 = .ok (.iload 8, 2) := by decide +kernel
theorem d_Be_addProduct_46 : decode b_Be_addProduct 46 = .ok (.iaload, 1) := by decide +kernel
theorem d_Be_addProduct_47 : decode b_Be_addProduct 47 = .ok (.i2l, 1) := by decide +kernel
theorem d_Be_addProduct_48 : decode b_Be_addProduct 48 = .ok (.ldc2_w 99, 3) := by decide +kernel
theorem d_Be_addProduct_51 : decode b_Be_addProduct 51 = .ok (.land, 1) := by decide +kernel
theorem d_Be_addProduct_52 : decode b_Be_addProduct 52 = .ok (.ladd, 1) := by decide +kernel
theorem d_Be_addProduct_53 : decode b_Be_addProduct 53 = .ok (.ladd, 1) := by decide +kernel
theorem d_Be_addProduct_54 : decode b_Be_addProduct 54 = .ok (.lstore 9, 2) := by decide +kernel
theorem d_Be_addProduct_56 : decode b_Be_addProduct 56 = .ok (.aload 6, 2) := by decide +kernel
theorem d_Be_addProduct_58 : decode b_Be_addProduct 58 = .ok (.iload 8, 2) := by decide +kernel
theorem d_Be_addProduct_60 : decode b_Be_addProduct 60 = .ok (.lload 9, 2) := by decide +kernel
theorem d_Be_addProduct_62 : decode b_Be_addProduct 62 = .ok (.l2i, 1) := by decide +kernel
theorem d_Be_addProduct_63 : decode b_Be_addProduct 63 = .ok (.iastore, 1) := by decide +kernel
theorem d_Be_addProduct_64 : decode b_Be_addProduct 64 = .ok (.lload 9, 2) := by decide +kernel
theorem d_Be_addProduct_66 : decode b_Be_addProduct 66 = .ok (.bipush 32, 2) := by decide +kernel
theorem d_Be_addProduct_68 : decode b_Be_addProduct 68 = .ok (.lushr, 1) := by decide +kernel
theorem d_Be_addProduct_69 : decode b_Be_addProduct 69 = .ok (.lstore 9, 2) := by decide +kernel
theorem d_Be_addProduct_71 : decode b_Be_addProduct 71 = .ok (.iinc 8 1, 3) := by decide +kernel
theorem d_Be_addProduct_74 : decode b_Be_addProduct 74 = .ok (.iinc 11 1, 3) := by decide +kernel
theorem d_Be_addProduct_77 : decode b_Be_addProduct 77 = .ok (.goto (-57), 3) := by decide +kernel
theorem d_Be_addProduct_80 : decode b_Be_addProduct 80 = .ok (.lload 9, 2) := by decide +kernel
theorem d_Be_addProduct_82 : decode b_Be_addProduct 82 = .ok (.l2i, 1) := by decide +kernel
theorem d_Be_addProduct_83 : decode b_Be_addProduct 83 = .ok (.ireturn, 1) := by decide +kernel
theorem d_Be_multiplyPlain_0 : decode b_Be_multiplyPlain 0 = .ok (.aload_n 0, 1) := by decide +kernel
theorem d_Be_multiplyPlain_1 : decode b_Be_multiplyPlain 1 = .ok (.getfield 11, 3) := by decide +kernel
theorem d_Be_multiplyPlain_4 : decode b_Be_multiplyPlain 4 = .ok (.iload_n 1, 1) := by decide +kernel
theorem d_Be_multiplyPlain_5 : decode b_Be_multiplyPlain 5 = .ok (.iload_n 1, 1) := by decide +kernel
theorem d_Be_multiplyPlain_6 : decode b_Be_multiplyPlain 6 = .ok (.iload_n 3, 1) := by decide +kernel
theorem d_Be_multiplyPlain_7 : decode b_Be_multiplyPlain 7 = .ok (.iadd, 1) := by decide +kernel
theorem d_Be_multiplyPlain_8 : decode b_Be_multiplyPlain 8 = .ok (.iconst 0, 1) := by decide +kernel
theorem d_Be_multiplyPlain_9 : decode b_Be_multiplyPlain 9 = .ok (.invokestatic 93, 3) := by decide +kernel
theorem d_Be_multiplyPlain_12 : decode b_Be_multiplyPlain 12 = .ok (.iconst 0, 1) := by decide +kernel
theorem d_Be_multiplyPlain_13 : decode b_Be_multiplyPlain 13 = .ok (.istore 6, 2) := by decide +kernel
theorem d_Be_multiplyPlain_15 : decode b_Be_multiplyPlain 15 = .ok (.iload 6, 2) := by decide +kernel
theorem d_Be_multiplyPlain_17 : decode b_Be_multiplyPlain 17 = .ok (.iload 5, 2) := by decide +kernel
theorem d_Be_multiplyPlain_19 : decode b_Be_multiplyPlain 19 = .ok (.if_icmp .ge 45, 3) := by decide +kernel
theorem d_Be_multiplyPlain_22 : decode b_Be_multiplyPlain 22 = .ok (.aload_n 0, 1) := by decide +kernel
theorem d_Be_multiplyPlain_23 : decode b_Be_multiplyPlain 23 = .ok (.getfield 11, 3) := by decide +kernel
theorem d_Be_multiplyPlain_26 : decode b_Be_multiplyPlain 26 = .ok (.iload_n 1, 1) := by decide +kernel
theorem d_Be_multiplyPlain_27 : decode b_Be_multiplyPlain 27 = .ok (.iload_n 3, 1) := by decide +kernel
theorem d_Be_multiplyPlain_28 : decode b_Be_multiplyPlain 28 = .ok (.iadd, 1) := by decide +kernel
theorem d_Be_multiplyPlain_29 : decode b_Be_multiplyPlain 29 = .ok (.iload 6, 2) := by decide +kernel
theorem d_Be_multiplyPlain_31 : decode b_Be_multiplyPlain 31 = .ok (.iadd, 1) := by decide +kernel
theorem d_Be_multiplyPlain_32 : decode b_Be_multiplyPlain 32 = .ok (.aload_n 0, 1) := by decide +kernel
theorem d_Be_multiplyPlain_33 : decode b_Be_multiplyPlain 33 = .ok (.iload_n 1, 1) := by decide +kernel
theorem d_Be_multiplyPlain_34 : decode b_Be_multiplyPlain 34 = .ok (.iload 6, 2) := by decide +kernel
theorem d_Be_multiplyPlain_36 : decode b_Be_multiplyPlain 36 = .ok (.iadd, 1) := by decide +kernel
theorem d_Be_multiplyPlain_37 : decode b_Be_multiplyPlain 37 = .ok (.iload_n 2, 1) := by decide +kernel
theorem d_Be_multiplyPlain_38 : decode b_Be_multiplyPlain 38 = .ok (.iload_n 3, 1) := by decide +kernel
theorem d_Be_multiplyPlain_39 : decode b_Be_multiplyPlain 39 = .ok (.aload_n 0, 1) := by decide +kernel
theorem d_Be_multiplyPlain_40 : decode b_Be_multiplyPlain 40 = .ok (.getfield 11, 3) := by decide +kernel
theorem d_Be_multiplyPlain_43 : decode b_Be_multiplyPlain 43 = .ok (.iload 4, 2) := by decide +kernel
theorem d_Be_multiplyPlain_45 : decode b_Be_multiplyPlain 45 = .ok (.iload 6, 2) := by decide +kernel
theorem d_Be_multiplyPlain_47 : decode b_Be_multiplyPlain 47 = .ok (.iadd, 1) := by decide +kernel
theorem d_Be_multiplyPlain_48 : decode b_Be_multiplyPlain 48 = .ok (.iaload, 1) := by decide +kernel
theorem d_Be_multiplyPlain_49 : decode b_Be_multiplyPlain 49 = .ok (.i2l, 1) := by decide +kernel
theorem d_Be_multiplyPlain_50 : decode b_Be_multiplyPlain 50 = .ok (.ldc2_w 99, 3) := by decide +kernel
theorem d_Be_multiplyPlain_53 : decode b_Be_multiplyPlain 53 = .ok (.land, 1) := by decide +kernel
theorem d_Be_multiplyPlain_54 : decode b_Be_multiplyPlain 54 = .ok (.invokevirtual 101, 3) := by decide +kernel
theorem d_Be_multiplyPlain_57 : decode b_Be_multiplyPlain 57 = .ok (.iastore, 1) := by decide +kernel
theorem d_Be_multiplyPlain_58 : decode b_Be_multiplyPlain 58 = .ok (.iinc 6 1, 3) := by decide +kernel
theorem d_Be_multiplyPlain_61 : decode b_Be_multiplyPlain 61 = .ok (.goto (-46), 3) := by decide +kernel
theorem d_Be_multiplyPlain_64 : decode b_Be_multiplyPlain 64 = .ok (.return_, 1) := by decide +kernel
theorem d_Be_multiplyTwice_0 : decode b_Be_multiplyTwice 0 = .ok (.iload_n 3, 1) := by decide +kernel
theorem d_Be_multiplyTwice_1 : decode b_Be_multiplyTwice 1 = .ok (.iconst 1, 1) := by decide +kernel
theorem d_Be_multiplyTwice_2 : decode b_Be_multiplyTwice 2 = .ok (.iadd, 1) := by decide +kernel
theorem d_Be_multiplyTwice_3 : decode b_Be_multiplyTwice 3 = .ok (.iconst 2, 1) := by decide +kernel
theorem d_Be_multiplyTwice_4 : decode b_Be_multiplyTwice 4 = .ok (.idiv, 1) := by decide +kernel
theorem d_Be_multiplyTwice_5 : decode b_Be_multiplyTwice 5 = .ok (.istore 8, 2) := by decide +kernel
theorem d_Be_multiplyTwice_7 : decode b_Be_multiplyTwice 7 = .ok (.iload_n 3, 1) := by decide +kernel
theorem d_Be_multiplyTwice_8 : decode b_Be_multiplyTwice 8 = .ok (.iload 8, 2) := by decide +kernel
theorem d_Be_multiplyTwice_10 : decode b_Be_multiplyTwice 10 = .ok (.isub, 1) := by decide +kernel
theorem d_Be_multiplyTwice_11 : decode b_Be_multiplyTwice 11 = .ok (.iload 5, 2) := by decide +kernel
theorem d_Be_multiplyTwice_13 : decode b_Be_multiplyTwice 13 = .ok (.iadd, 1) := by decide +kernel
theorem d_Be_multiplyTwice_14 : decode b_Be_multiplyTwice 14 = .ok (.istore 9, 2) := by decide +kernel
theorem d_Be_multiplyTwice_16 : decode b_Be_multiplyTwice 16 = .ok (.aload_n 0, 1) := by decide +kernel
theorem d_Be_multiplyTwice_17 : decode b_Be_multiplyTwice 17 = .ok (.iload_n 1, 1) := by decide +kernel
theorem d_Be_multiplyTwice_18 : decode b_Be_multiplyTwice 18 = .ok (.iload_n 2, 1) := by decide +kernel
theorem d_Be_multiplyTwice_19 : decode b_Be_multiplyTwice 19 = .ok (.iload 8, 2) := by decide +kernel
theorem d_Be_multiplyTwice_21 : decode b_Be_multiplyTwice 21 = .ok (.iload 4, 2) := by decide +kernel
theorem d_Be_multiplyTwice_23 : decode b_Be_multiplyTwice 23 = .ok (.iload 5, 2) := by decide +kernel
theorem d_Be_multiplyTwice_25 : decode b_Be_multiplyTwice 25 = .ok (.iload 6, 2) := by decide +kernel
theorem d_Be_multiplyTwice_27 : decode b_Be_multiplyTwice 27 = .ok (.iload 7, 2) := by decide +kernel
theorem d_Be_multiplyTwice_29 : decode b_Be_multiplyTwice 29 = .ok (.invokevirtual 30, 3) := by decide +kernel
theorem d_Be_multiplyTwice_32 : decode b_Be_multiplyTwice 32 = .ok (.aload_n 0, 1) := by decide +kernel
theorem d_Be_multiplyTwice_33 : decode b_Be_multiplyTwice 33 = .ok (.iload 6, 2) := by decide +kernel
theorem d_Be_multiplyTwice_35 : decode b_Be_multiplyTwice 35 = .ok (.iload_n 2, 1) := by decide +kernel
theorem d_Be_multiplyTwice_36 : decode b_Be_multiplyTwice 36 = .ok (.iload 8, 2) := by decide +kernel
theorem d_Be_multiplyTwice_38 : decode b_Be_multiplyTwice 38 = .ok (.iadd, 1) := by decide +kernel
theorem d_Be_multiplyTwice_39 : decode b_Be_multiplyTwice 39 = .ok (.iload_n 3, 1) := by decide +kernel
theorem d_Be_multiplyTwice_40 : decode b_Be_multiplyTwice 40 = .ok (.iload 8, 2) := by decide +kernel
theorem d_Be_multiplyTwice_42 : decode b_Be_multiplyTwice 42 = .ok (.isub, 1) := by decide +kernel
theorem d_Be_multiplyTwice_43 : decode b_Be_multiplyTwice 43 = .ok (.iload 4, 2) := by decide +kernel
theorem d_Be_multiplyTwice_45 : decode b_Be_multiplyTwice 45 = .ok (.iload 5, 2) := by decide +kernel
theorem d_Be_multiplyTwice_47 : decode b_Be_multiplyTwice 47 = .ok (.iload 6, 2) := by decide +kernel
theorem d_Be_multiplyTwice_49 : decode b_Be_multiplyTwice 49 = .ok (.iload 9, 2) := by decide +kernel
theorem d_Be_multiplyTwice_51 : decode b_Be_multiplyTwice 51 = .ok (.iadd, 1) := by decide +kernel
theorem d_Be_multiplyTwice_52 : decode b_Be_multiplyTwice 52 = .ok (.iload 7, 2) := by decide +kernel
theorem d_Be_multiplyTwice_54 : decode b_Be_multiplyTwice 54 = .ok (.invokevirtual 30, 3) := by decide +kernel
theorem d_Be_multiplyTwice_57 : decode b_Be_multiplyTwice 57 = .ok (.aload_n 0, 1) := by decide +kernel
theorem d_Be_multiplyTwice_58 : decode b_Be_multiplyTwice 58 = .ok (.getfield 11, 3) := by decide +kernel
theorem d_Be_multiplyTwice_61 : decode b_Be_multiplyTwice 61 = .ok (.iload_n 1, 1) := by decide +kernel
theorem d_Be_multiplyTwice_62 : decode b_Be_multiplyTwice 62 = .ok (.iload 8, 2) := by decide +kernel
theorem d_Be_multiplyTwice_64 : decode b_Be_multiplyTwice 64 = .ok (.iadd, 1) := by decide +kernel
theorem d_Be_multiplyTwice_65 : decode b_Be_multiplyTwice 65 = .ok (.iload 5, 2) := by decide +kernel
theorem d_Be_multiplyTwice_67 : decode b_Be_multiplyTwice 67 = .ok (.iadd, 1) := by decide +kernel
theorem d_Be_multiplyTwice_68 : decode b_Be_multiplyTwice 68 = .ok (.iload_n 1, 1) := by decide +kernel
theorem d_Be_multiplyTwice_69 : decode b_Be_multiplyTwice 69 = .ok (.iload_n 3, 1) := by decide +kernel
theorem d_Be_multiplyTwice_70 : decode b_Be_multiplyTwice 70 = .ok (.iadd, 1) := by decide +kernel
theorem d_Be_multiplyTwice_71 : decode b_Be_multiplyTwice 71 = .ok (.iload 5, 2) := by decide +kernel
theorem d_Be_multiplyTwice_73 : decode b_Be_multiplyTwice 73 = .ok (.iadd, 1) := by decide +kernel
theorem d_Be_multiplyTwice_74 : decode b_Be_multiplyTwice 74 = .ok (.iconst 0, 1) := by decide +kernel
theorem d_Be_multiplyTwice_75 : decode b_Be_multiplyTwice 75 = .ok (.invokestatic 93, 3) := by decide +kernel
theorem d_Be_multiplyTwice_78 : decode b_Be_multiplyTwice 78 = .ok (.aload_n 0, 1) := by decide +kernel
theorem d_Be_multiplyTwice_79 : decode b_Be_multiplyTwice 79 = .ok (.iload_n 1, 1) := by decide +kernel
theorem d_Be_multiplyTwice_80 : decode b_Be_multiplyTwice 80 = .ok (.iload 8, 2) := by decide +kernel
theorem d_Be_multiplyTwice_82 : decode b_Be_multiplyTwice 82 = .ok (.iadd, 1) := by decide +kernel
theorem d_Be_multiplyTwice_83 : decode b_Be_multiplyTwice 83 = .ok (.iload 9, 2) := by decide +kernel
theorem d_Be_multiplyTwice_85 : decode b_Be_multiplyTwice 85 = .ok (.iload 6, 2) := by decide +kernel
theorem d_Be_multiplyTwice_87 : decode b_Be_multiplyTwice 87 = .ok (.iload 9, 2) := by decide +kernel
theorem d_Be_multiplyTwice_89 : decode b_Be_multiplyTwice 89 = .ok (.invokevirtual 105, 3) := by decide +kernel
theorem d_Be_multiplyTwice_92 : decode b_Be_multiplyTwice 92 = .ok (.pop, 1) := by decide +kernel
theorem d_Be_multiplyTwice_93 : decode b_Be_multiplyTwice 93 = .ok (.return_, 1) := by decide +kernel
theorem d_Be_addInto_0 : decode b_Be_addInto 0 = .ok (.aload_n 0, 1) := by decide +kernel
theorem d_Be_addInto_1 : decode b_Be_addInto 1 = .ok (.getfield 11, 3) := by decide +kernel
theorem d_Be_addInto_4 : decode b_Be_addInto 4 = .ok (.astore 5, 2) := by decide +kernel
theorem d_Be_addInto_6 : decode b_Be_addInto 6 = .ok (.iload_n 3, 1) := by decide +kernel
theorem d_Be_addInto_7 : decode b_Be_addInto 7 = .ok (.iload_n 1, 1) := by decide +kernel
theorem d_Be_addInto_8 : decode b_Be_addInto 8 = .ok (.isub, 1) := by decide +kernel
theorem d_Be_addInto_9 : decode b_Be_addInto 9 = .ok (.istore 6, 2) := by decide +kernel
theorem d_Be_addInto_11 : decode b_Be_addInto 11 = .ok (.iload_n 1, 1) := by decide +kernel
theorem d_Be_addInto_12 : decode b_Be_addInto 12 = .ok (.iload 4, 2) := by decide +kernel
theorem d_Be_addInto_14 : decode b_Be_addInto 14 = .ok (.iadd, 1) := by decide +kernel
theorem d_Be_addInto_15 : decode b_Be_addInto 15 = .ok (.istore 7, 2) := by decide +kernel
theorem d_Be_addInto_17 : decode b_Be_addInto 17 = .ok (.lconst 0, 1) := by decide +kernel
theorem d_Be_addInto_18 : decode b_Be_addInto 18 = .ok (.lstore 8, 2) := by decide +kernel
theorem d_Be_addInto_20 : decode b_Be_addInto 20 = .ok (.iload_n 1, 1) := by decide +kernel
theorem d_Be_addInto_21 : decode b_Be_addInto 21 = .ok (.istore 10, 2) := by decide +kernel
theorem d_Be_addInto_23 : decode b_Be_addInto 23 = .ok (.iload 10, 2) := by decide +kernel
theorem d_Be_addInto_25 : decode b_Be_addInto 25 = .ok (.iload 7, 2) := by decide +kernel
theorem d_Be_addInto_27 : decode b_Be_addInto 27 = .ok (.if_icmp .ge 53, 3) := by decide +kernel
theorem d_Be_addInto_30 : decode b_Be_addInto 30 = .ok (.lload 8, 2) := by decide +kernel
theorem d_Be_addInto_32 : decode b_Be_addInto 32 = .ok (.aload 5, 2) := by decide +kernel
theorem d_Be_addInto_34 : decode b_Be_addInto 34 = .ok (.iload 10, 2) := by decide +kernel
theorem d_Be_addInto_36 : decode b_Be_addInto 36 = .ok (.iaload, 1) := by decide +kernel
theorem d_Be_addInto_37 : decode b_Be_addInto 37 = .ok (.i2l, 1) := by decide +kernel
theorem d_Be_addInto_38 : decode b_Be_addInto 38 = .ok (.ldc2_w 99, 3) := by decide +kernel
theorem d_Be_addInto_41 : decode b_Be_addInto 41 = .ok (.land, 1) := by decide +kernel
theorem d_Be_addInto_42 : decode b_Be_addInto 42 = .ok (.aload 5, 2) := by decide +kernel
theorem d_Be_addInto_44 : decode b_Be_addInto 44 = .ok (.iload 10, 2) := by decide +kernel
theorem d_Be_addInto_46 : decode b_Be_addInto 46 = .ok (.iload 6, 2) := by decide +kernel
theorem d_Be_addInto_48 : decode b_Be_addInto 48 = .ok (.iadd, 1) := by decide +kernel
theorem d_Be_addInto_49 : decode b_Be_addInto 49 = .ok (.iaload, 1) := by decide +kernel
theorem d_Be_addInto_50 : decode b_Be_addInto 50 = .ok (.i2l, 1) := by decide +kernel
theorem d_Be_addInto_51 : decode b_Be_addInto 51 = .ok (.ldc2_w 99, 3) := by decide +kernel
theorem d_Be_addInto_54 : decode b_Be_addInto 54 = .ok (.land, 1) := by decide +kernel
theorem d_Be_addInto_55 : decode b_Be_addInto 55 = .ok (.ladd, 1) := by decide +kernel
theorem d_Be_addInto_56 : decode b_Be_addInto 56 = .ok (.ladd, 1) := by decide +kernel
theorem d_Be_addInto_57 : decode b_Be_addInto 57 = .ok (.lstore 8, 2) := by decide +kernel
theorem d_Be_addInto_59 : decode b_Be_addInto 59 = .ok (.aload 5, 2) := by decide +kernel
theorem d_Be_addInto_61 : decode b_Be_addInto 61 = .ok (.iload 10, 2) := by decide +kernel
theorem d_Be_addInto_63 : decode b_Be_addInto 63 = .ok (.lload 8, 2) := by decide +kernel
theorem d_Be_addInto_65 : decode b_Be_addInto 65 = .ok (.l2i, 1) := by decide +kernel
theorem d_Be_addInto_66 : decode b_Be_addInto 66 = .ok (.iastore, 1) := by decide +kernel
theorem d_Be_addInto_67 : decode b_Be_addInto 67 = .ok (.lload 8, 2) := by decide +kernel
theorem d_Be_addInto_69 : decode b_Be_addInto 69 = .ok (.bipush 32, 2) := by decide +kernel
theorem d_Be_addInto_71 : decode b_Be_addInto 71 = .ok (.lushr, 1) := by decide +kernel
theorem d_Be_addInto_72 : decode b_Be_addInto 72 = .ok (.lstore 8, 2) := by decide +kernel
theorem d_Be_addInto_74 : decode b_Be_addInto 74 = .ok (.iinc 10 1, 3) := by decide +kernel
theorem d_Be_addInto_77 : decode b_Be_addInto 77 = .ok (.goto (-54), 3) := by decide +kernel
theorem d_Be_addInto_80 : decode b_Be_addInto 80 = .ok (.iload 7, 2) := by decide +kernel
theorem d_Be_addInto_82 : decode b_Be_addInto 82 = .ok (.istore 10, 2) := by decide +kernel
theorem d_Be_addInto_84 : decode b_Be_addInto 84 = .ok (.iload 10, 2) := by decide +kernel
theorem d_Be_addInto_86 : decode b_Be_addInto 86 = .ok (.iload_n 1, 1) := by decide +kernel
theorem d_Be_addInto_87 : decode b_Be_addInto 87 = .ok (.iload_n 2, 1) := by decide +kernel
theorem d_Be_addInto_88 : decode b_Be_addInto 88 = .ok (.iadd, 1) := by decide +kernel
theorem d_Be_addInto_89 : decode b_Be_addInto 89 = .ok (.if_icmp .ge 46, 3) := by decide +kernel
theorem d_Be_addInto_92 : decode b_Be_addInto 92 = .ok (.lload 8, 2) := by decide +kernel
theorem d_Be_addInto_94 : decode b_Be_addInto 94 = .ok (.lconst 0, 1) := by decide +kernel
theorem d_Be_addInto_95 : decode b_Be_addInto 95 = .ok (.lcmp, 1) := by decide +kernel
theorem d_Be_addInto_96 : decode b_Be_addInto 96 = .ok (.ifCond .eq 39, 3) := by decide +kernel
theorem d_Be_addInto_99 : decode b_Be_addInto 99 = .ok (.lload 8, 2) := by decide +kernel
theorem d_Be_addInto_101 : decode b_Be_addInto 101 = .ok (.aload 5, 2) := by decide +kernel
theorem d_Be_addInto_103 : decode b_Be_addInto 103 = .ok (.iload 10, 2) := by decide +kernel
theorem d_Be_addInto_105 : decode b_Be_addInto 105 = .ok (.iaload, 1) := by decide +kernel
theorem d_Be_addInto_106 : decode b_Be_addInto 106 = .ok (.i2l, 1) := by decide +kernel
theorem d_Be_addInto_107 : decode b_Be_addInto 107 = .ok (.ldc2_w 99, 3) := by decide +kernel
theorem d_Be_addInto_110 : decode b_Be_addInto 110 = .ok (.land, 1) := by decide +kernel
theorem d_Be_addInto_111 : decode b_Be_addInto 111 = .ok (.ladd, 1) := by decide +kernel
theorem d_Be_addInto_112 : decode b_Be_addInto 112 = .ok (.lstore 8, 2) := by decide +kernel
theorem d_Be_addInto_114 : decode b_Be_addInto 114 = .ok (.aload 5, 2) := by decide +kernel
theorem d_Be_addInto_116 : decode b_Be_addInto 116 = .ok (.iload 10, 2) := by decide +kernel
theorem d_Be_addInto_118 : decode b_Be_addInto 118 = .ok (.lload 8, 2) := by decide +kernel
theorem d_Be_addInto_120 : decode b_Be_addInto 120 = .ok (.l2i, 1) := by decide +kernel
theorem d_Be_addInto_121 : decode b_Be_addInto 121 = .ok (.iastore, 1) := by decide +kernel
theorem d_Be_addInto_122 : decode b_Be_addInto 122 = .ok (.lload 8, 2) := by decide +kernel
theorem d_Be_addInto_124 : decode b_Be_addInto 124 = .ok (.bipush 32, 2) := by decide +kernel
theorem d_Be_addInto_126 : decode b_Be_addInto 126 = .ok (.lushr, 1) := by decide +kernel
theorem d_Be_addInto_127 : decode b_Be_addInto 127 = .ok (.lstore 8, 2) := by decide +kernel
theorem d_Be_addInto_129 : decode b_Be_addInto 129 = .ok (.iinc 10 1, 3) := by decide +kernel
theorem d_Be_addInto_132 : decode b_Be_addInto 132 = .ok (.goto (-48), 3) := by decide +kernel
theorem d_Be_addInto_135 : decode b_Be_addInto 135 = .ok (.lload 8, 2) := by decide +kernel
theorem d_Be_addInto_137 : decode b_Be_addInto 137 = .ok (.l2i, 1) := by decide +kernel
theorem d_Be_addInto_138 : decode b_Be_addInto 138 = .ok (.ireturn, 1) := by decide +kernel
theorem d_Be_multiplyThrice_0 : decode b_Be_multiplyThrice 0 = .ok (.iload_n 3, 1) := by decide +kernel
theorem d_Be_multiplyThrice_1 : decode b_Be_multiplyThrice 1 = .ok (.iload 5, 2) := by decide +kernel
theorem d_Be_multiplyThrice_3 : decode b_Be_multiplyThrice 3 = .ok (.invokestatic 54, 3) := by decide +kernel
theorem d_Be_multiplyThrice_6 : decode b_Be_multiplyThrice 6 = .ok (.iconst 1, 1) := by decide +kernel
theorem d_Be_multiplyThrice_7 : decode b_Be_multiplyThrice 7 = .ok (.iadd, 1) := by decide +kernel
theorem d_Be_multiplyThrice_8 : decode b_Be_multiplyThrice 8 = .ok (.iconst 2, 1) := by decide +kernel
theorem d_Be_multiplyThrice_9 : decode b_Be_multiplyThrice 9 = .ok (.idiv, 1) := by decide +kernel
theorem d_Be_multiplyThrice_10 : decode b_Be_multiplyThrice 10 = .ok (.istore 8, 2) := by decide +kernel
theorem d_Be_multiplyThrice_12 : decode b_Be_multiplyThrice 12 = .ok (.iload_n 3, 1) := by decide +kernel
theorem d_Be_multiplyThrice_13 : decode b_Be_multiplyThrice 13 = .ok (.iload 5, 2) := by decide +kernel
theorem d_Be_multiplyThrice_15 : decode b_Be_multiplyThrice 15 = .ok (.iadd, 1) := by decide +kernel
theorem d_Be_multiplyThrice_16 : decode b_Be_multiplyThrice 16 = .ok (.iconst 2, 1) := by decide +kernel
theorem d_Be_multiplyThrice_17 : decode b_Be_multiplyThrice 17 = .ok (.iload 8, 2) := by decide +kernel
theorem d_Be_multiplyThrice_19 : decode b_Be_multiplyThrice 19 = .ok (.imul, 1) := by decide +kernel
theorem d_Be_multiplyThrice_20 : decode b_Be_multiplyThrice 20 = .ok (.isub, 1) := by decide +kernel
theorem d_Be_multiplyThrice_21 : decode b_Be_multiplyThrice 21 = .ok (.istore 9, 2) := by decide +kernel
theorem d_Be_multiplyThrice_23 : decode b_Be_multiplyThrice 23 = .ok (.iload_n 2, 1) := by decide +kernel
theorem d_Be_multiplyThrice_24 : decode b_Be_multiplyThrice 24 = .ok (.iload 4, 2) := by decide +kernel
theorem d_Be_multiplyThrice_26 : decode b_Be_multiplyThrice 26 = .ok (.if_icmp .ne 7, 3) := by decide +kernel
theorem d_Be_multiplyThrice_29 : decode b_Be_multiplyThrice 29 = .ok (.iload_n 1, 1) := by decide +kernel
theorem d_Be_multiplyThrice_30 : decode b_Be_multiplyThrice 30 = .ok (.goto 7, 3) := by decide +kernel
theorem d_Be_multiplyThrice_33 : decode b_Be_multiplyThrice 33 = .ok (.iload_n 1, 1) := by decide +kernel
theorem d_Be_multiplyThrice_34 : decode b_Be_multiplyThrice 34 = .ok (.iload 8, 2) := by decide +kernel
theorem d_Be_multiplyThrice_36 : decode b_Be_multiplyThrice 36 = .ok (.iadd, 1) := by decide +kernel
theorem d_Be_multiplyThrice_37 : decode b_Be_multiplyThrice 37 = .ok (.istore 10, 2) := by decide +kernel
theorem d_Be_multiplyThrice_39 : decode b_Be_multiplyThrice 39 = .ok (.aload_n 0, 1) := by decide +kernel
theorem d_Be_multiplyThrice_40 : decode b_Be_multiplyThrice 40 = .ok (.iload_n 1, 1) := by decide +kernel
theorem d_Be_multiplyThrice_41 : decode b_Be_multiplyThrice 41 = .ok (.iload_n 2, 1) := by decide +kernel
theorem d_Be_multiplyThrice_42 : decode b_Be_multiplyThrice 42 = .ok (.iload 8, 2) := by decide +kernel
theorem d_Be_multiplyThrice_44 : decode b_Be_multiplyThrice 44 = .ok (.iload_n 3, 1) := by decide +kernel
theorem d_Be_multiplyThrice_45 : decode b_Be_multiplyThrice 45 = .ok (.iload 8, 2) := by decide +kernel
theorem d_Be_multiplyThrice_47 : decode b_Be_multiplyThrice 47 = .ok (.isub, 1) := by decide +kernel
theorem d_Be_multiplyThrice_48 : decode b_Be_multiplyThrice 48 = .ok (.invokevirtual 109, 3) := by decide +kernel
theorem d_Be_multiplyThrice_51 : decode b_Be_multiplyThrice 51 = .ok (.istore 11, 2) := by decide +kernel
theorem d_Be_multiplyThrice_53 : decode b_Be_multiplyThrice 53 = .ok (.aload_n 0, 1) := by decide +kernel
theorem d_Be_multiplyThrice_54 : decode b_Be_multiplyThrice 54 = .ok (.iload 10, 2) := by decide +kernel
theorem d_Be_multiplyThrice_56 : decode b_Be_multiplyThrice 56 = .ok (.iload 4, 2) := by decide +kernel
theorem d_Be_multiplyThrice_58 : decode b_Be_multiplyThrice 58 = .ok (.iload 8, 2) := by decide +kernel
theorem d_Be_multiplyThrice_60 : decode b_Be_multiplyThrice 60 = .ok (.iload 5, 2) := by decide +kernel
theorem d_Be_multiplyThrice_62 : decode b_Be_multiplyThrice 62 = .ok (.iload 8, 2) := by decide +kernel
theorem d_Be_multiplyThrice_64 : decode b_Be_multiplyThrice 64 = .ok (.isub, 1) := by decide +kernel
theorem d_Be_multiplyThrice_65 : decode b_Be_multiplyThrice 65 = .ok (.invokevirtual 109, 3) := by decide +kernel
theorem d_Be_multiplyThrice_68 : decode b_Be_multiplyThrice 68 = .ok (.istore 12, 2) := by decide +kernel
theorem d_Be_multiplyThrice_70 : decode b_Be_multiplyThrice 70 = .ok (.iload 6, 2) := by decide +kernel
theorem d_Be_multiplyThrice_72 : decode b_Be_multiplyThrice 72 = .ok (.iconst 2, 1) := by decide +kernel
theorem d_Be_multiplyThrice_73 : decode b_Be_multiplyThrice 73 = .ok (.iload 8, 2) := by decide +kernel
theorem d_Be_multiplyThrice_75 : decode b_Be_multiplyThrice 75 = .ok (.imul, 1) := by decide +kernel
theorem d_Be_multiplyThrice_76 : decode b_Be_multiplyThrice 76 = .ok (.iadd, 1) := by decide +kernel
theorem d_Be_multiplyThrice_77 : decode b_Be_multiplyThrice 77 = .ok (.istore 13, 2) := by decide +kernel
theorem d_Be_multiplyThrice_79 : decode b_Be_multiplyThrice 79 = .ok (.aload_n 0, 1) := by decide +kernel
theorem d_Be_multiplyThrice_80 : decode b_Be_multiplyThrice 80 = .ok (.iload 6, 2) := by decide +kernel
theorem d_Be_multiplyThrice_82 : decode b_Be_multiplyThrice 82 = .ok (.iload_n 1, 1) := by decide +kernel
theorem d_Be_multiplyThrice_83 : decode b_Be_multiplyThrice 83 = .ok (.iload 8, 2) := by decide +kernel
theorem d_Be_multiplyThrice_85 : decode b_Be_multiplyThrice 85 = .ok (.iload 10, 2) := by decide +kernel
theorem d_Be_multiplyThrice_87 : decode b_Be_multiplyThrice 87 = .ok (.iload 8, 2) := by decide +kernel
theorem d_Be_multiplyThrice_89 : decode b_Be_multiplyThrice 89 = .ok (.iload 13, 2) := by decide +kernel
theorem d_Be_multiplyThrice_91 : decode b_Be_multiplyThrice 91 = .ok (.iload 7, 2) := by decide +kernel
theorem d_Be_multiplyThrice_93 : decode b_Be_multiplyThrice 93 = .ok (.invokevirtual 30, 3) := by decide +kernel
theorem d_Be_multiplyThrice_96 : decode b_Be_multiplyThrice 96 = .ok (.aload_n 0, 1) := by decide +kernel
theorem d_Be_multiplyThrice_97 : decode b_Be_multiplyThrice 97 = .ok (.iload_n 1, 1) := by decide +kernel
theorem d_Be_multiplyThrice_98 : decode b_Be_multiplyThrice 98 = .ok (.iload_n 2, 1) := by decide +kernel
theorem d_Be_multiplyThrice_99 : decode b_Be_multiplyThrice 99 = .ok (.iload 8, 2) := by decide +kernel
theorem d_Be_multiplyThrice_101 : decode b_Be_multiplyThrice 101 = .ok (.iload 4, 2) := by decide +kernel
theorem d_Be_multiplyThrice_103 : decode b_Be_multiplyThrice 103 = .ok (.iload 8, 2) := by decide +kernel
theorem d_Be_multiplyThrice_105 : decode b_Be_multiplyThrice 105 = .ok (.iload 13, 2) := by decide +kernel
theorem d_Be_multiplyThrice_107 : decode b_Be_multiplyThrice 107 = .ok (.iload 7, 2) := by decide +kernel
theorem d_Be_multiplyThrice_109 : decode b_Be_multiplyThrice 109 = .ok (.invokevirtual 30, 3) := by decide +kernel
theorem d_Be_multiplyThrice_112 : decode b_Be_multiplyThrice 112 = .ok (.aload_n 0, 1) := by decide +kernel
theorem d_Be_multiplyThrice_113 : decode b_Be_multiplyThrice 113 = .ok (.iload_n 1, 1) := by decide +kernel
theorem d_Be_multiplyThrice_114 : decode b_Be_multiplyThrice 114 = .ok (.iconst 2, 1) := by decide +kernel
theorem d_Be_multiplyThrice_115 : decode b_Be_multiplyThrice 115 = .ok (.iload 8, 2) := by decide +kernel
theorem d_Be_multiplyThrice_117 : decode b_Be_multiplyThrice 117 = .ok (.imul, 1) := by decide +kernel
theorem d_Be_multiplyThrice_118 : decode b_Be_multiplyThrice 118 = .ok (.iadd, 1) := by decide +kernel
theorem d_Be_multiplyThrice_119 : decode b_Be_multiplyThrice 119 = .ok (.iload_n 2, 1) := by decide +kernel
theorem d_Be_multiplyThrice_120 : decode b_Be_multiplyThrice 120 = .ok (.iload 8, 2) := by decide +kernel
theorem d_Be_multiplyThrice_122 : decode b_Be_multiplyThrice 122 = .ok (.iadd, 1) := by decide +kernel
theorem d_Be_multiplyThrice_123 : decode b_Be_multiplyThrice 123 = .ok (.iload_n 3, 1) := by decide +kernel
theorem d_Be_multiplyThrice_124 : decode b_Be_multiplyThrice 124 = .ok (.iload 8, 2) := by decide +kernel
theorem d_Be_multiplyThrice_126 : decode b_Be_multiplyThrice 126 = .ok (.isub, 1) := by decide +kernel
theorem d_Be_multiplyThrice_127 : decode b_Be_multiplyThrice 127 = .ok (.iload 4, 2) := by decide +kernel
theorem d_Be_multiplyThrice_129 : decode b_Be_multiplyThrice 129 = .ok (.iload 8, 2) := by decide +kernel
theorem d_Be_multiplyThrice_131 : decode b_Be_multiplyThrice 131 = .ok (.iadd, 1) := by decide +kernel
theorem d_Be_multiplyThrice_132 : decode b_Be_multiplyThrice 132 = .ok (.iload 5, 2) := by decide +kernel
theorem d_Be_multiplyThrice_134 : decode b_Be_multiplyThrice 134 = .ok (.iload 8, 2) := by decide +kernel
theorem d_Be_multiplyThrice_136 : decode b_Be_multiplyThrice 136 = .ok (.isub, 1) := by decide +kernel
theorem d_Be_multiplyThrice_137 : decode b_Be_multiplyThrice 137 = .ok (.iload 13, 2) := by decide +kernel
theorem d_Be_multiplyThrice_139 : decode b_Be_multiplyThrice 139 = .ok (.iload 7, 2) := by decide +kernel
theorem d_Be_multiplyThrice_141 : decode b_Be_multiplyThrice 141 = .ok (.invokevirtual 30, 3) := by decide +kernel
theorem d_Be_multiplyThrice_144 : decode b_Be_multiplyThrice 144 = .ok (.iconst 2, 1) := by decide +kernel
theorem d_Be_multiplyThrice_145 : decode b_Be_multiplyThrice 145 = .ok (.iload 8, 2) := by decide +kernel
theorem d_Be_multiplyThrice_147 : decode b_Be_multiplyThrice 147 = .ok (.imul, 1) := by decide +kernel
theorem d_Be_multiplyThrice_148 : decode b_Be_multiplyThrice 148 = .ok (.iconst 1, 1) := by decide +kernel
theorem d_Be_multiplyThrice_149 : decode b_Be_multiplyThrice 149 = .ok (.iadd, 1) := by decide +kernel
theorem d_Be_multiplyThrice_150 : decode b_Be_multiplyThrice 150 = .ok (.istore 14, 2) := by decide +kernel
theorem d_Be_multiplyThrice_152 : decode b_Be_multiplyThrice 152 = .ok (.aload_n 0, 1) := by decide +kernel
theorem d_Be_multiplyThrice_153 : decode b_Be_multiplyThrice 153 = .ok (.getfield 11, 3) := by decide +kernel
theorem d_Be_multiplyThrice_156 : decode b_Be_multiplyThrice 156 = .ok (.iload_n 1, 1) := by decide +kernel
theorem d_Be_multiplyThrice_157 : decode b_Be_multiplyThrice 157 = .ok (.aload_n 0, 1) := by decide +kernel
theorem d_Be_multiplyThrice_158 : decode b_Be_multiplyThrice 158 = .ok (.getfield 11, 3) := by decide +kernel
theorem d_Be_multiplyThrice_161 : decode b_Be_multiplyThrice 161 = .ok (.iload 13, 2) := by decide +kernel
theorem d_Be_multiplyThrice_163 : decode b_Be_multiplyThrice 163 = .ok (.iconst 2, 1) := by decide +kernel
theorem d_Be_multiplyThrice_164 : decode b_Be_multiplyThrice 164 = .ok (.iload 8, 2) := by decide +kernel
theorem d_Be_multiplyThrice_166 : decode b_Be_multiplyThrice 166 = .ok (.imul, 1) := by decide +kernel
theorem d_Be_multiplyThrice_167 : decode b_Be_multiplyThrice 167 = .ok (.invokestatic 24, 3) := by decide +kernel
theorem d_Be_multiplyThrice_170 : decode b_Be_multiplyThrice 170 = .ok (.aload_n 0, 1) := by decide +kernel
theorem d_Be_multiplyThrice_171 : decode b_Be_multiplyThrice 171 = .ok (.getfield 11, 3) := by decide +kernel
theorem d_Be_multiplyThrice_174 : decode b_Be_multiplyThrice 174 = .ok (.iload 13, 2) := by decide +kernel
theorem d_Be_multiplyThrice_176 : decode b_Be_multiplyThrice 176 = .ok (.iconst 2, 1) := by decide +kernel
theorem d_Be_multiplyThrice_177 : decode b_Be_multiplyThrice 177 = .ok (.iload 8, 2) := by decide +kernel
theorem d_Be_multiplyThrice_179 : decode b_Be_multiplyThrice 179 = .ok (.imul, 1) := by decide +kernel
theorem d_Be_multiplyThrice_180 : decode b_Be_multiplyThrice 180 = .ok (.iadd, 1) := by decide +kernel
theorem d_Be_multiplyThrice_181 : decode b_Be_multiplyThrice 181 = .ok (.iconst 0, 1) := by decide +kernel
theorem d_Be_multiplyThrice_182 : decode b_Be_multiplyThrice 182 = .ok (.iastore, 1) := by decide +kernel
theorem d_Be_multiplyThrice_183 : decode b_Be_multiplyThrice 183 = .ok (.aload_n 0, 1) := by decide +kernel
theorem d_Be_multiplyThrice_184 : decode b_Be_multiplyThrice 184 = .ok (.iload 13, 2) := by decide +kernel
theorem d_Be_multiplyThrice_186 : decode b_Be_multiplyThrice 186 = .ok (.iload 14, 2) := by decide +kernel
theorem d_Be_multiplyThrice_188 : decode b_Be_multiplyThrice 188 = .ok (.iload_n 1, 1) := by decide +kernel
theorem d_Be_multiplyThrice_189 : decode b_Be_multiplyThrice 189 = .ok (.iconst 2, 1) := by decide +kernel
theorem d_Be_multiplyThrice_190 : decode b_Be_multiplyThrice 190 = .ok (.iload 8, 2) := by decide +kernel
theorem d_Be_multiplyThrice_192 : decode b_Be_multiplyThrice 192 = .ok (.imul, 1) := by decide +kernel
theorem d_Be_multiplyThrice_193 : decode b_Be_multiplyThrice 193 = .ok (.iadd, 1) := by decide +kernel
theorem d_Be_multiplyThrice_194 : decode b_Be_multiplyThrice 194 = .ok (.iload 9, 2) := by decide +kernel
theorem d_Be_multiplyThrice_196 : decode b_Be_multiplyThrice 196 = .ok (.invokevirtual 105, 3) := by decide +kernel
theorem d_Be_multiplyThrice_199 : decode b_Be_multiplyThrice 199 = .ok (.pop, 1) := by decide +kernel
theorem d_Be_multiplyThrice_200 : decode b_Be_multiplyThrice 200 = .ok (.iload 11, 2) := by decide +kernel
theorem d_Be_multiplyThrice_202 : decode b_Be_multiplyThrice 202 = .ok (.iload 12, 2) := by decide +kernel
theorem d_Be_multiplyThrice_204 : decode b_Be_multiplyThrice 204 = .ok (.if_icmp .ne 21, 3) := by decide +kernel
theorem d_Be_multiplyThrice_207 : decode b_Be_multiplyThrice 207 = .ok (.aload_n 0, 1) := by decide +kernel
theorem d_Be_multiplyThrice_208 : decode b_Be_multiplyThrice 208 = .ok (.iload 13, 2) := by decide +kernel
theorem d_Be_multiplyThrice_210 : decode b_Be_multiplyThrice 210 = .ok (.iload 14, 2) := by decide +kernel
theorem d_Be_multiplyThrice_212 : decode b_Be_multiplyThrice 212 = .ok (.iload 6, 2) := by decide +kernel
theorem d_Be_multiplyThrice_214 : decode b_Be_multiplyThrice 214 = .ok (.iconst 2, 1) := by decide +kernel
theorem d_Be_multiplyThrice_215 : decode b_Be_multiplyThrice 215 = .ok (.iload 8, 2) := by decide +kernel
theorem d_Be_multiplyThrice_217 : decode b_Be_multiplyThrice 217 = .ok (.imul, 1) := by decide +kernel
theorem d_Be_multiplyThrice_218 : decode b_Be_multiplyThrice 218 = .ok (.invokevirtual 113, 3) := by decide +kernel
theorem d_Be_multiplyThrice_221 : decode b_Be_multiplyThrice 221 = .ok (.pop, 1) := by decide +kernel
theorem d_Be_multiplyThrice_222 : decode b_Be_multiplyThrice 222 = .ok (.goto 18, 3) := by decide +kernel
theorem d_Be_multiplyThrice_225 : decode b_Be_multiplyThrice 225 = .ok (.aload_n 0, 1) := by decide +kernel
theorem d_Be_multiplyThrice_226 : decode b_Be_multiplyThrice 226 = .ok (.iload 13, 2) := by decide +kernel
theorem d_Be_multiplyThrice_228 : decode b_Be_multiplyThrice 228 = .ok (.iload 14, 2) := by decide +kernel
theorem d_Be_multiplyThrice_230 : decode b_Be_multiplyThrice 230 = .ok (.iload 6, 2) := by decide +kernel
theorem d_Be_multiplyThrice_232 : decode b_Be_multiplyThrice 232 = .ok (.iconst 2, 1) := by decide +kernel
theorem d_Be_multiplyThrice_233 : decode b_Be_multiplyThrice 233 = .ok (.iload 8, 2) := by decide +kernel
theorem d_Be_multiplyThrice_235 : decode b_Be_multiplyThrice 235 = .ok (.imul, 1) := by decide +kernel
theorem d_Be_multiplyThrice_236 : decode b_Be_multiplyThrice 236 = .ok (.invokevirtual 105, 3) := by decide +kernel
theorem d_Be_multiplyThrice_239 : decode b_Be_multiplyThrice 239 = .ok (.pop, 1) := by decide +kernel
theorem d_Be_multiplyThrice_240 : decode b_Be_multiplyThrice 240 = .ok (.aload_n 0, 1) := by decide +kernel
theorem d_Be_multiplyThrice_241 : decode b_Be_multiplyThrice 241 = .ok (.iload_n 1, 1) := by decide +kernel
theorem d_Be_multiplyThrice_242 : decode b_Be_multiplyThrice 242 = .ok (.iload 8, 2) := by decide +kernel
theorem d_Be_multiplyThrice_244 : decode b_Be_multiplyThrice 244 = .ok (.iadd, 1) := by decide +kernel
theorem d_Be_multiplyThrice_245 : decode b_Be_multiplyThrice 245 = .ok (.iload 8, 2) := by decide +kernel
theorem d_Be_multiplyThrice_247 : decode b_Be_multiplyThrice 247 = .ok (.iload 9, 2) := by decide +kernel
theorem d_Be_multiplyThrice_249 : decode b_Be_multiplyThrice 249 = .ok (.iadd, 1) := by decide +kernel
theorem d_Be_multiplyThrice_250 : decode b_Be_multiplyThrice 250 = .ok (.iload 13, 2) := by decide +kernel
theorem d_Be_multiplyThrice_252 : decode b_Be_multiplyThrice 252 = .ok (.iload 14, 2) := by decide +kernel
theorem d_Be_multiplyThrice_254 : decode b_Be_multiplyThrice 254 = .ok (.iload 8, 2) := by decide +kernel
theorem d_Be_multiplyThrice_256 : decode b_Be_multiplyThrice 256 = .ok (.iload 9, 2) := by decide +kernel
theorem d_Be_multiplyThrice_258 : decode b_Be_multiplyThrice 258 = .ok (.iadd, 1) := by decide +kernel
theorem d_Be_multiplyThrice_259 : decode b_Be_multiplyThrice 259 = .ok (.invokestatic 72, 3) := by decide +kernel
theorem d_Be_multiplyThrice_262 : decode b_Be_multiplyThrice 262 = .ok (.invokevirtual 105, 3) := by decide +kernel
theorem d_Be_multiplyThrice_265 : decode b_Be_multiplyThrice 265 = .ok (.pop, 1) := by decide +kernel
theorem d_Be_multiplyThrice_266 : decode b_Be_multiplyThrice 266 = .ok (.return_, 1) := by decide +kernel
theorem d_Be_layDifference_0 : decode b_Be_layDifference 0 = .ok (.aload_n 0, 1) := by decide +kernel
theorem d_Be_layDifference_1 : decode b_Be_layDifference 1 = .ok (.getfield 11, 3) := by decide +kernel
theorem d_Be_layDifference_4 : decode b_Be_layDifference 4 = .ok (.astore 5, 2) := by decide +kernel
theorem d_Be_layDifference_6 : decode b_Be_layDifference 6 = .ok (.lconst 0, 1) := by decide +kernel
theorem d_Be_layDifference_7 : decode b_Be_layDifference 7 = .ok (.lstore 6, 2) := by decide +kernel
theorem d_Be_layDifference_9 : decode b_Be_layDifference 9 = .ok (.iconst 0, 1) := by decide +kernel
theorem d_Be_layDifference_10 : decode b_Be_layDifference 10 = .ok (.istore 8, 2) := by decide +kernel
theorem d_Be_layDifference_12 : decode b_Be_layDifference 12 = .ok (.iload 8, 2) := by decide +kernel
theorem d_Be_layDifference_14 : decode b_Be_layDifference 14 = .ok (.iload_n 3, 1) := by decide +kernel
theorem d_Be_layDifference_15 : decode b_Be_layDifference 15 = .ok (.if_icmp .ge 69, 3) := by decide +kernel
theorem d_Be_layDifference_18 : decode b_Be_layDifference 18 = .ok (.lload 6, 2) := by decide +kernel
theorem d_Be_layDifference_20 : decode b_Be_layDifference 20 = .ok (.aload 5, 2) := by decide +kernel
theorem d_Be_layDifference_22 : decode b_Be_layDifference 22 = .ok (.iload_n 2, 1) := by decide +kernel
theorem d_Be_layDifference_23 : decode b_Be_layDifference 23 = .ok (.iload 8, 2) := by decide +kernel
theorem d_Be_layDifference_25 : decode b_Be_layDifference 25 = .ok (.iadd, 1) := by decide +kernel
theorem d_Be_layDifference_26 : decode b_Be_layDifference 26 = .ok (.iaload, 1) := by decide +kernel
theorem d_Be_layDifference_27 : decode b_Be_layDifference 27 = .ok (.i2l, 1) := by decide +kernel
theorem d_Be_layDifference_28 : decode b_Be_layDifference 28 = .ok (.ldc2_w 99, 3) := by decide +kernel
theorem d_Be_layDifference_31 : decode b_Be_layDifference 31 = .ok (.land, 1) := by decide +kernel
theorem d_Be_layDifference_32 : decode b_Be_layDifference 32 = .ok (.iload 8, 2) := by decide +kernel
theorem d_Be_layDifference_34 : decode b_Be_layDifference 34 = .ok (.iload 4, 2) := by decide +kernel
theorem d_Be_layDifference_36 : decode b_Be_layDifference 36 = .ok (.if_icmp .ge 20, 3) := by decide +kernel
theorem d_Be_layDifference_39 : decode b_Be_layDifference 39 = .ok (.aload 5, 2) := by decide +kernel
theorem d_Be_layDifference_41 : decode b_Be_layDifference 41 = .ok (.iload_n 2, 1) := by decide +kernel
theorem d_Be_layDifference_42 : decode b_Be_layDifference 42 = .ok (.iload_n 3, 1) := by decide +kernel
theorem d_Be_layDifference_43 : decode b_Be_layDifference 43 = .ok (.iadd, 1) := by decide +kernel
theorem d_Be_layDifference_44 : decode b_Be_layDifference 44 = .ok (.iload 8, 2) := by decide +kernel
theorem d_Be_layDifference_46 : decode b_Be_layDifference 46 = .ok (.iadd, 1) := by decide +kernel
theorem d_Be_layDifference_47 : decode b_Be_layDifference 47 = .ok (.iaload, 1) := by decide +kernel
theorem d_Be_layDifference_48 : decode b_Be_layDifference 48 = .ok (.i2l, 1) := by decide +kernel
theorem d_Be_layDifference_49 : decode b_Be_layDifference 49 = .ok (.ldc2_w 99, 3) := by decide +kernel
theorem d_Be_layDifference_52 : decode b_Be_layDifference 52 = .ok (.land, 1) := by decide +kernel
theorem d_Be_layDifference_53 : decode b_Be_layDifference 53 = .ok (.goto 4, 3) := by decide +kernel
theorem d_Be_layDifference_56 : decode b_Be_layDifference 56 = .ok (.lconst 0, 1) := by decide +kernel
theorem d_Be_layDifference_57 : decode b_Be_layDifference 57 = .ok (.lsub, 1) := by decide +kernel
theorem d_Be_layDifference_58 : decode b_Be_layDifference 58 = .ok (.ladd, 1) := by decide +kernel
theorem d_Be_layDifference_59 : decode b_Be_layDifference 59 = .ok (.lstore 6, 2) := by decide +kernel
theorem d_Be_layDifference_61 : decode b_Be_layDifference 61 = .ok (.aload 5, 2) := by decide +kernel
theorem d_Be_layDifference_63 : decode b_Be_layDifference 63 = .ok (.iload_n 1, 1) := by decide +kernel
theorem d_Be_layDifference_64 : decode b_Be_layDifference 64 = .ok (.iload 8, 2) := by decide +kernel
theorem d_Be_layDifference_66 : decode b_Be_layDifference 66 = .ok (.iadd, 1) := by decide +kernel
theorem d_Be_layDifference_67 : decode b_Be_layDifference 67 = .ok (.lload 6, 2) := by decide +kernel
theorem d_Be_layDifference_69 : decode b_Be_layDifference 69 = .ok (.l2i, 1) := by decide +kernel
theorem d_Be_layDifference_70 : decode b_Be_layDifference 70 = .ok (.iastore, 1) := by decide +kernel
theorem d_Be_layDifference_71 : decode b_Be_layDifference 71 = .ok (.lload 6, 2) := by decide +kernel
theorem d_Be_layDifference_73 : decode b_Be_layDifference 73 = .ok (.bipush 32, 2) := by decide +kernel
theorem d_Be_layDifference_75 : decode b_Be_layDifference 75 = .ok (.lshr, 1) := by decide +kernel
theorem d_Be_layDifference_76 : decode b_Be_layDifference 76 = .ok (.lstore 6, 2) := by decide +kernel
theorem d_Be_layDifference_78 : decode b_Be_layDifference 78 = .ok (.iinc 8 1, 3) := by decide +kernel
theorem d_Be_layDifference_81 : decode b_Be_layDifference 81 = .ok (.goto (-69), 3) := by decide +kernel
theorem d_Be_layDifference_84 : decode b_Be_layDifference 84 = .ok (.lload 6, 2) := by decide +kernel
theorem d_Be_layDifference_86 : decode b_Be_layDifference 86 = .ok (.lconst 0, 1) := by decide +kernel
theorem d_Be_layDifference_87 : decode b_Be_layDifference 87 = .ok (.lcmp, 1) := by decide +kernel
theorem d_Be_layDifference_88 : decode b_Be_layDifference 88 = .ok (.ifCond .ne 5, 3) := by decide +kernel
theorem d_Be_layDifference_91 : decode b_Be_layDifference 91 = .ok (.iconst 0, 1) := by decide +kernel
theorem d_Be_layDifference_92 : decode b_Be_layDifference 92 = .ok (.ireturn, 1) := by decide +kernel
theorem d_Be_layDifference_93 : decode b_Be_layDifference 93 = .ok (.lconst 1, 1) := by decide +kernel
theorem d_Be_layDifference_94 : decode b_Be_layDifference 94 = .ok (.lstore 8, 2) := by decide +kernel
theorem d_Be_layDifference_96 : decode b_Be_layDifference 96 = .ok (.iload_n 1, 1) := by decide +kernel
theorem d_Be_layDifference_97 : decode b_Be_layDifference 97 = .ok (.istore 10, 2) := by decide +kernel
theorem d_Be_layDifference_99 : decode b_Be_layDifference 99 = .ok (.iload 10, 2) := by decide +kernel
theorem d_Be_layDifference_101 : decode b_Be_layDifference 101 = .ok (.iload_n 1, 1) := by decide +kernel
theorem d_Be_layDifference_102 : decode b_Be_layDifference 102 = .ok (.iload_n 3, 1) := by decide +kernel
theorem d_Be_layDifference_103 : decode b_Be_layDifference 103 = .ok (.iadd, 1) := by decide +kernel
theorem d_Be_layDifference_104 : decode b_Be_layDifference 104 = .ok (.if_icmp .ge 41, 3) := by decide +kernel
theorem d_Be_layDifference_107 : decode b_Be_layDifference 107 = .ok (.lload 8, 2) := by decide +kernel
theorem d_Be_layDifference_109 : decode b_Be_layDifference 109 = .ok (.aload 5, 2) := by decide +kernel
theorem d_Be_layDifference_111 : decode b_Be_layDifference 111 = .ok (.iload 10, 2) := by decide +kernel
theorem d_Be_layDifference_113 : decode b_Be_layDifference 113 = .ok (.iaload, 1) := by decide +kernel
theorem d_Be_layDifference_114 : decode b_Be_layDifference 114 = .ok (.iconst (-1), 1) := by decide +kernel
theorem d_Be_layDifference_115 : decode b_Be_layDifference 115 = .ok (.ixor, 1) := by decide +kernel
theorem d_Be_layDifference_116 : decode b_Be_layDifference 116 = .ok (.i2l, 1) := by decide +kernel
theorem d_Be_layDifference_117 : decode b_Be_layDifference 117 = .ok (.ldc2_w 99, 3) := by decide +kernel
theorem d_Be_layDifference_120 : decode b_Be_layDifference 120 = .ok (.land, 1) := by decide +kernel
theorem d_Be_layDifference_121 : decode b_Be_layDifference 121 = .ok (.ladd, 1) := by decide +kernel
theorem d_Be_layDifference_122 : decode b_Be_layDifference 122 = .ok (.lstore 8, 2) := by decide +kernel
theorem d_Be_layDifference_124 : decode b_Be_layDifference 124 = .ok (.aload 5, 2) := by decide +kernel
theorem d_Be_layDifference_126 : decode b_Be_layDifference 126 = .ok (.iload 10, 2) := by decide +kernel
theorem d_Be_layDifference_128 : decode b_Be_layDifference 128 = .ok (.lload 8, 2) := by decide +kernel
theorem d_Be_layDifference_130 : decode b_Be_layDifference 130 = .ok (.l2i, 1) := by decide +kernel
theorem d_Be_layDifference_131 : decode b_Be_layDifference 131 = .ok (.iastore, 1) := by decide +kernel
theorem d_Be_layDifference_132 : decode b_Be_layDifference 132 = .ok (.lload 8, 2) := by decide +kernel
theorem d_Be_layDifference_134 : decode b_Be_layDifference 134 = .ok (.bipush 32, 2) := by decide +kernel
theorem d_Be_layDifference_136 : decode b_Be_layDifference 136 = .ok (.lushr, 1) := by decide +kernel
theorem d_Be_layDifference_137 : decode b_Be_layDifference 137 = .ok (.lstore 8, 2) := by decide +kernel
theorem d_Be_layDifference_139 : decode b_Be_layDifference 139 = .ok (.iinc 10 1, 3) := by decide +kernel
theorem d_Be_layDifference_142 : decode b_Be_layDifference 142 = .ok (.goto (-43), 3) := by decide +kernel
theorem d_Be_layDifference_145 : decode b_Be_layDifference 145 = .ok (.iconst 1, 1) := by decide +kernel
theorem d_Be_layDifference_146 : decode b_Be_layDifference 146 = .ok (.ireturn, 1) := by decide +kernel
theorem d_Be_takeFrom_0 : decode b_Be_takeFrom 0 = .ok (.aload_n 0, 1) := by decide +kernel
theorem d_Be_takeFrom_1 : decode b_Be_takeFrom 1 = .ok (.getfield 11, 3) := by decide +kernel
theorem d_Be_takeFrom_4 : decode b_Be_takeFrom 4 = .ok (.astore 5, 2) := by decide +kernel
theorem d_Be_takeFrom_6 : decode b_Be_takeFrom 6 = .ok (.iload_n 3, 1) := by decide +kernel
theorem d_Be_takeFrom_7 : decode b_Be_takeFrom 7 = .ok (.iload_n 1, 1) := by decide +kernel
theorem d_Be_takeFrom_8 : decode b_Be_takeFrom 8 = .ok (.isub, 1) := by decide +kernel
theorem d_Be_takeFrom_9 : decode b_Be_takeFrom 9 = .ok (.istore 6, 2) := by decide +kernel
theorem d_Be_takeFrom_11 : decode b_Be_takeFrom 11 = .ok (.iload_n 1, 1) := by decide +kernel
theorem d_Be_takeFrom_12 : decode b_Be_takeFrom 12 = .ok (.iload 4, 2) := by decide +kernel
theorem d_Be_takeFrom_14 : decode b_Be_takeFrom 14 = .ok (.iadd, 1) := by decide +kernel
theorem d_Be_takeFrom_15 : decode b_Be_takeFrom 15 = .ok (.istore 7, 2) := by decide +kernel
theorem d_Be_takeFrom_17 : decode b_Be_takeFrom 17 = .ok (.lconst 0, 1) := by decide +kernel
theorem d_Be_takeFrom_18 : decode b_Be_takeFrom 18 = .ok (.lstore 8, 2) := by decide +kernel
theorem d_Be_takeFrom_20 : decode b_Be_takeFrom 20 = .ok (.iload_n 1, 1) := by decide +kernel
theorem d_Be_takeFrom_21 : decode b_Be_takeFrom 21 = .ok (.istore 10, 2) := by decide +kernel
theorem d_Be_takeFrom_23 : decode b_Be_takeFrom 23 = .ok (.iload 10, 2) := by decide +kernel
theorem d_Be_takeFrom_25 : decode b_Be_takeFrom 25 = .ok (.iload 7, 2) := by decide +kernel
theorem d_Be_takeFrom_27 : decode b_Be_takeFrom 27 = .ok (.if_icmp .ge 53, 3) := by decide +kernel
theorem d_Be_takeFrom_30 : decode b_Be_takeFrom 30 = .ok (.lload 8, 2) := by decide +kernel
theorem d_Be_takeFrom_32 : decode b_Be_takeFrom 32 = .ok (.aload 5, 2) := by decide +kernel
theorem d_Be_takeFrom_34 : decode b_Be_takeFrom 34 = .ok (.iload 10, 2) := by decide +kernel
theorem d_Be_takeFrom_36 : decode b_Be_takeFrom 36 = .ok (.iaload, 1) := by decide +kernel
theorem d_Be_takeFrom_37 : decode b_Be_takeFrom 37 = .ok (.i2l, 1) := by decide +kernel
theorem d_Be_takeFrom_38 : decode b_Be_takeFrom 38 = .ok (.ldc2_w 99, 3) := by decide +kernel
theorem d_Be_takeFrom_41 : decode b_Be_takeFrom 41 = .ok (.land, 1) := by decide +kernel
theorem d_Be_takeFrom_42 : decode b_Be_takeFrom 42 = .ok (.aload 5, 2) := by decide +kernel
theorem d_Be_takeFrom_44 : decode b_Be_takeFrom 44 = .ok (.iload 10, 2) := by decide +kernel
theorem d_Be_takeFrom_46 : decode b_Be_takeFrom 46 = .ok (.iload 6, 2) := by decide +kernel
theorem d_Be_takeFrom_48 : decode b_Be_takeFrom 48 = .ok (.iadd, 1) := by decide +kernel
theorem d_Be_takeFrom_49 : decode b_Be_takeFrom 49 = .ok (.iaload, 1) := by decide +kernel
theorem d_Be_takeFrom_50 : decode b_Be_takeFrom 50 = .ok (.i2l, 1) := by decide +kernel
theorem d_Be_takeFrom_51 : decode b_Be_takeFrom 51 = .ok (.ldc2_w 99, 3) := by decide +kernel
theorem d_Be_takeFrom_54 : decode b_Be_takeFrom 54 = .ok (.land, 1) := by decide +kernel
theorem d_Be_takeFrom_55 : decode b_Be_takeFrom 55 = .ok (.lsub, 1) := by decide +kernel
theorem d_Be_takeFrom_56 : decode b_Be_takeFrom 56 = .ok (.ladd, 1) := by decide +kernel
theorem d_Be_takeFrom_57 : decode b_Be_takeFrom 57 = .ok (.lstore 8, 2) := by decide +kernel
theorem d_Be_takeFrom_59 : decode b_Be_takeFrom 59 = .ok (.aload 5, 2) := by decide +kernel
theorem d_Be_takeFrom_61 : decode b_Be_takeFrom 61 = .ok (.iload 10, 2) := by decide +kernel
theorem d_Be_takeFrom_63 : decode b_Be_takeFrom 63 = .ok (.lload 8, 2) := by decide +kernel
theorem d_Be_takeFrom_65 : decode b_Be_takeFrom 65 = .ok (.l2i, 1) := by decide +kernel
theorem d_Be_takeFrom_66 : decode b_Be_takeFrom 66 = .ok (.iastore, 1) := by decide +kernel
theorem d_Be_takeFrom_67 : decode b_Be_takeFrom 67 = .ok (.lload 8, 2) := by decide +kernel
theorem d_Be_takeFrom_69 : decode b_Be_takeFrom 69 = .ok (.bipush 32, 2) := by decide +kernel
theorem d_Be_takeFrom_71 : decode b_Be_takeFrom 71 = .ok (.lshr, 1) := by decide +kernel
theorem d_Be_takeFrom_72 : decode b_Be_takeFrom 72 = .ok (.lstore 8, 2) := by decide +kernel
theorem d_Be_takeFrom_74 : decode b_Be_takeFrom 74 = .ok (.iinc 10 1, 3) := by decide +kernel
theorem d_Be_takeFrom_77 : decode b_Be_takeFrom 77 = .ok (.goto (-54), 3) := by decide +kernel
theorem d_Be_takeFrom_80 : decode b_Be_takeFrom 80 = .ok (.iload 7, 2) := by decide +kernel
theorem d_Be_takeFrom_82 : decode b_Be_takeFrom 82 = .ok (.istore 10, 2) := by decide +kernel
theorem d_Be_takeFrom_84 : decode b_Be_takeFrom 84 = .ok (.iload 10, 2) := by decide +kernel
theorem d_Be_takeFrom_86 : decode b_Be_takeFrom 86 = .ok (.iload_n 1, 1) := by decide +kernel
theorem d_Be_takeFrom_87 : decode b_Be_takeFrom 87 = .ok (.iload_n 2, 1) := by decide +kernel
theorem d_Be_takeFrom_88 : decode b_Be_takeFrom 88 = .ok (.iadd, 1) := by decide +kernel
theorem d_Be_takeFrom_89 : decode b_Be_takeFrom 89 = .ok (.if_icmp .ge 46, 3) := by decide +kernel
theorem d_Be_takeFrom_92 : decode b_Be_takeFrom 92 = .ok (.lload 8, 2) := by decide +kernel
theorem d_Be_takeFrom_94 : decode b_Be_takeFrom 94 = .ok (.lconst 0, 1) := by decide +kernel
theorem d_Be_takeFrom_95 : decode b_Be_takeFrom 95 = .ok (.lcmp, 1) := by decide +kernel
theorem d_Be_takeFrom_96 : decode b_Be_takeFrom 96 = .ok (.ifCond .eq 39, 3) := by decide +kernel
theorem d_Be_takeFrom_99 : decode b_Be_takeFrom 99 = .ok (.lload 8, 2) := by decide +kernel
theorem d_Be_takeFrom_101 : decode b_Be_takeFrom 101 = .ok (.aload 5, 2) := by decide +kernel
theorem d_Be_takeFrom_103 : decode b_Be_takeFrom 103 = .ok (.iload 10, 2) := by decide +kernel
theorem d_Be_takeFrom_105 : decode b_Be_takeFrom 105 = .ok (.iaload, 1) := by decide +kernel
theorem d_Be_takeFrom_106 : decode b_Be_takeFrom 106 = .ok (.i2l, 1) := by decide +kernel
theorem d_Be_takeFrom_107 : decode b_Be_takeFrom 107 = .ok (.ldc2_w 99, 3) := by decide +kernel
theorem d_Be_takeFrom_110 : decode b_Be_takeFrom 110 = .ok (.land, 1) := by decide +kernel
theorem d_Be_takeFrom_111 : decode b_Be_takeFrom 111 = .ok (.ladd, 1) := by decide +kernel
theorem d_Be_takeFrom_112 : decode b_Be_takeFrom 112 = .ok (.lstore 8, 2) := by decide +kernel
theorem d_Be_takeFrom_114 : decode b_Be_takeFrom 114 = .ok (.aload 5, 2) := by decide +kernel
theorem d_Be_takeFrom_116 : decode b_Be_takeFrom 116 = .ok (.iload 10, 2) := by decide +kernel
theorem d_Be_takeFrom_118 : decode b_Be_takeFrom 118 = .ok (.lload 8, 2) := by decide +kernel
theorem d_Be_takeFrom_120 : decode b_Be_takeFrom 120 = .ok (.l2i, 1) := by decide +kernel
theorem d_Be_takeFrom_121 : decode b_Be_takeFrom 121 = .ok (.iastore, 1) := by decide +kernel
theorem d_Be_takeFrom_122 : decode b_Be_takeFrom 122 = .ok (.lload 8, 2) := by decide +kernel
theorem d_Be_takeFrom_124 : decode b_Be_takeFrom 124 = .ok (.bipush 32, 2) := by decide +kernel
theorem d_Be_takeFrom_126 : decode b_Be_takeFrom 126 = .ok (.lshr, 1) := by decide +kernel
theorem d_Be_takeFrom_127 : decode b_Be_takeFrom 127 = .ok (.lstore 8, 2) := by decide +kernel
theorem d_Be_takeFrom_129 : decode b_Be_takeFrom 129 = .ok (.iinc 10 1, 3) := by decide +kernel
theorem d_Be_takeFrom_132 : decode b_Be_takeFrom 132 = .ok (.goto (-48), 3) := by decide +kernel
theorem d_Be_takeFrom_135 : decode b_Be_takeFrom 135 = .ok (.lload 8, 2) := by decide +kernel
theorem d_Be_takeFrom_137 : decode b_Be_takeFrom 137 = .ok (.lneg, 1) := by decide +kernel
theorem d_Be_takeFrom_138 : decode b_Be_takeFrom 138 = .ok (.l2i, 1) := by decide +kernel
theorem d_Be_takeFrom_139 : decode b_Be_takeFrom 139 = .ok (.ireturn, 1) := by decide +kernel
theorem d_Be_putQuotient_0 : decode b_Be_putQuotient 0 = .ok (.aload 4, 2) := by decide +kernel
theorem d_Be_putQuotient_2 : decode b_Be_putQuotient 2 = .ok (.getfield 15, 3) := by decide +kernel
theorem d_Be_putQuotient_5 : decode b_Be_putQuotient 5 = .ok (.istore 5, 2) := by decide +kernel
theorem d_Be_putQuotient_7 : decode b_Be_putQuotient 7 = .ok (.iconst 0, 1) := by decide +kernel
theorem d_Be_putQuotient_8 : decode b_Be_putQuotient 8 = .ok (.aload_n 3, 1) := by decide +kernel
theorem d_Be_putQuotient_9 : decode b_Be_putQuotient 9 = .ok (.getfield 15, 3) := by decide +kernel
theorem d_Be_putQuotient_12 : decode b_Be_putQuotient 12 = .ok (.iconst 1, 1) := by decide +kernel
theorem d_Be_putQuotient_13 : decode b_Be_putQuotient 13 = .ok (.iadd, 1) := by decide +kernel
theorem d_Be_putQuotient_14 : decode b_Be_putQuotient 14 = .ok (.iload 5, 2) := by decide +kernel
theorem d_Be_putQuotient_16 : decode b_Be_putQuotient 16 = .ok (.isub, 1) := by decide +kernel
theorem d_Be_putQuotient_17 : decode b_Be_putQuotient 17 = .ok (.invokestatic 54, 3) := by decide +kernel
theorem d_Be_putQuotient_20 : decode b_Be_putQuotient 20 = .ok (.istore 6, 2) := by decide +kernel
theorem d_Be_putQuotient_22 : decode b_Be_putQuotient 22 = .ok (.aload_n 3, 1) := by decide +kernel
theorem d_Be_putQuotient_23 : decode b_Be_putQuotient 23 = .ok (.getfield 15, 3) := by decide +kernel
theorem d_Be_putQuotient_26 : decode b_Be_putQuotient 26 = .ok (.iconst 1, 1) := by decide +kernel
theorem d_Be_putQuotient_27 : decode b_Be_putQuotient 27 = .ok (.iadd, 1) := by decide +kernel
theorem d_Be_putQuotient_28 : decode b_Be_putQuotient 28 = .ok (.istore 7, 2) := by decide +kernel
theorem d_Be_putQuotient_30 : decode b_Be_putQuotient 30 = .ok (.iload 7, 2) := by decide +kernel
theorem d_Be_putQuotient_32 : decode b_Be_putQuotient 32 = .ok (.iload 5, 2) := by decide +kernel
theorem d_Be_putQuotient_34 : decode b_Be_putQuotient 34 = .ok (.iadd, 1) := by decide +kernel
theorem d_Be_putQuotient_35 : decode b_Be_putQuotient 35 = .ok (.iconst 1, 1) := by decide +kernel
theorem d_Be_putQuotient_36 : decode b_Be_putQuotient 36 = .ok (.iadd, 1) := by decide +kernel
theorem d_Be_putQuotient_37 : decode b_Be_putQuotient 37 = .ok (.istore 8, 2) := by decide +kernel
theorem d_Be_putQuotient_39 : decode b_Be_putQuotient 39 = .ok (.bipush 32, 2) := by decide +kernel
theorem d_Be_putQuotient_41 : decode b_Be_putQuotient 41 = .ok (.iload 5, 2) := by decide +kernel
theorem d_Be_putQuotient_43 : decode b_Be_putQuotient 43 = .ok (.imul, 1) := by decide +kernel
theorem d_Be_putQuotient_44 : decode b_Be_putQuotient 44 = .ok (.aload 4, 2) := by decide +kernel
theorem d_Be_putQuotient_46 : decode b_Be_putQuotient 46 = .ok (.invokevirtual 60, 3) := by decide +kernel
theorem d_Be_putQuotient_49 : decode b_Be_putQuotient 49 = .ok (.isub, 1) := by decide +kernel
theorem d_Be_putQuotient_50 : decode b_Be_putQuotient 50 = .ok (.istore 9, 2) := by decide +kernel
theorem d_Be_putQuotient_52 : decode b_Be_putQuotient 52 = .ok (.aload_n 0, 1) := by decide +kernel
theorem d_Be_putQuotient_53 : decode b_Be_putQuotient 53 = .ok (.iconst 0, 1) := by decide +kernel
theorem d_Be_putQuotient_54 : decode b_Be_putQuotient 54 = .ok (.aload_n 3, 1) := by decide +kernel
theorem d_Be_putQuotient_55 : decode b_Be_putQuotient 55 = .ok (.iload 9, 2) := by decide +kernel
theorem d_Be_putQuotient_57 : decode b_Be_putQuotient 57 = .ok (.invokevirtual 64, 3) := by decide +kernel
theorem d_Be_putQuotient_60 : decode b_Be_putQuotient 60 = .ok (.aload_n 0, 1) := by decide +kernel
theorem d_Be_putQuotient_61 : decode b_Be_putQuotient 61 = .ok (.iload 7, 2) := by decide +kernel
theorem d_Be_putQuotient_63 : decode b_Be_putQuotient 63 = .ok (.aload 4, 2) := by decide +kernel
theorem d_Be_putQuotient_65 : decode b_Be_putQuotient 65 = .ok (.iload 9, 2) := by decide +kernel
theorem d_Be_putQuotient_67 : decode b_Be_putQuotient 67 = .ok (.invokevirtual 64, 3) := by decide +kernel
theorem d_Be_putQuotient_70 : decode b_Be_putQuotient 70 = .ok (.iload 6, 2) := by decide +kernel
theorem d_Be_putQuotient_72 : decode b_Be_putQuotient 72 = .ok (.istore 10, 2) := by decide +kernel
theorem d_Be_putQuotient_74 : decode b_Be_putQuotient 74 = .ok (.iload 10, 2) := by decide +kernel
theorem d_Be_putQuotient_76 : decode b_Be_putQuotient 76 = .ok (.ifCond .le 61, 3) := by decide +kernel
theorem d_Be_putQuotient_79 : decode b_Be_putQuotient 79 = .ok (.iload 5, 2) := by decide +kernel
theorem d_Be_putQuotient_81 : decode b_Be_putQuotient 81 = .ok (.bipush 80, 2) := by decide +kernel
theorem d_Be_putQuotient_83 : decode b_Be_putQuotient 83 = .ok (.if_icmp .ge 8, 3) := by decide +kernel
theorem d_Be_putQuotient_86 : decode b_Be_putQuotient 86 = .ok (.iload 10, 2) := by decide +kernel
theorem d_Be_putQuotient_88 : decode b_Be_putQuotient 88 = .ok (.goto 12, 3) := by decide +kernel
theorem d_Be_putQuotient_91 : decode b_Be_putQuotient 91 = .ok (.iload 10, 2) := by decide +kernel
theorem d_Be_putQuotient_93 : decode b_Be_putQuotient 93 = .ok (.iconst 1, 1) := by decide +kernel
theorem d_Be_putQuotient_94 : decode b_Be_putQuotient 94 = .ok (.isub, 1) := by decide +kernel
theorem d_Be_putQuotient_95 : decode b_Be_putQuotient 95 = .ok (.iload 5, 2) := by decide +kernel
theorem d_Be_putQuotient_97 : decode b_Be_putQuotient 97 = .ok (.irem, 1) := by decide +kernel
theorem d_Be_putQuotient_98 : decode b_Be_putQuotient 98 = .ok (.iconst 1, 1) := by decide +kernel
theorem d_Be_putQuotient_99 : decode b_Be_putQuotient 99 = .ok (.iadd, 1) := by decide +kernel
theorem d_Be_putQuotient_100 : decode b_Be_putQuotient 100 = .ok (.istore 11, 2) := by decide +kernel
theorem d_Be_putQuotient_102 : decode b_Be_putQuotient 102 = .ok (.iload 10, 2) := by decide +kernel
theorem d_Be_putQuotient_104 : decode b_Be_putQuotient 104 = .ok (.iload 11, 2) := by decide +kernel
theorem d_Be_putQuotient_106 : decode b_Be_putQuotient 106 = .ok (.isub, 1) := by decide +kernel
theorem d_Be_putQuotient_107 : decode b_Be_putQuotient 107 = .ok (.istore 10, 2) := by decide +kernel
theorem d_Be_putQuotient_109 : decode b_Be_putQuotient 109 = .ok (.aload_n 0, 1) := by decide +kernel
theorem d_Be_putQuotient_110 : decode b_Be_putQuotient 110 = .ok (.iload 8, 2) := by decide +kernel
theorem d_Be_putQuotient_112 : decode b_Be_putQuotient 112 = .ok (.iload 10, 2) := by decide +kernel
theorem d_Be_putQuotient_114 : decode b_Be_putQuotient 114 = .ok (.iadd, 1) := by decide +kernel
theorem d_Be_putQuotient_115 : decode b_Be_putQuotient 115 = .ok (.iload 10, 2) := by decide +kernel
theorem d_Be_putQuotient_117 : decode b_Be_putQuotient 117 = .ok (.iload 7, 2) := by decide +kernel
theorem d_Be_putQuotient_119 : decode b_Be_putQuotient 119 = .ok (.iload 5, 2) := by decide +kernel
theorem d_Be_putQuotient_121 : decode b_Be_putQuotient 121 = .ok (.iload 11, 2) := by decide +kernel
theorem d_Be_putQuotient_123 : decode b_Be_putQuotient 123 = .ok (.iload 8, 2) := by decide +kernel
theorem d_Be_putQuotient_125 : decode b_Be_putQuotient 125 = .ok (.iload 6, 2) := by decide +kernel
theorem d_Be_putQuotient_127 : decode b_Be_putQuotient 127 = .ok (.iadd, 1) := by decide +kernel
theorem d_Be_putQuotient_128 : decode b_Be_putQuotient 128 = .ok (.bipush 20, 2) := by decide +kernel
theorem d_Be_putQuotient_130 : decode b_Be_putQuotient 130 = .ok (.invokevirtual 68, 3) := by decide +kernel
theorem d_Be_putQuotient_133 : decode b_Be_putQuotient 133 = .ok (.pop, 1) := by decide +kernel
theorem d_Be_putQuotient_134 : decode b_Be_putQuotient 134 = .ok (.goto (-60), 3) := by decide +kernel
theorem d_Be_putQuotient_137 : decode b_Be_putQuotient 137 = .ok (.aload_n 0, 1) := by decide +kernel
theorem d_Be_putQuotient_138 : decode b_Be_putQuotient 138 = .ok (.getfield 11, 3) := by decide +kernel
theorem d_Be_putQuotient_141 : decode b_Be_putQuotient 141 = .ok (.iload 8, 2) := by decide +kernel
theorem d_Be_putQuotient_143 : decode b_Be_putQuotient 143 = .ok (.aload_n 1, 1) := by decide +kernel
theorem d_Be_putQuotient_144 : decode b_Be_putQuotient 144 = .ok (.getfield 21, 3) := by decide +kernel
theorem d_Be_putQuotient_147 : decode b_Be_putQuotient 147 = .ok (.iconst 0, 1) := by decide +kernel
theorem d_Be_putQuotient_148 : decode b_Be_putQuotient 148 = .ok (.iload 6, 2) := by decide +kernel
theorem d_Be_putQuotient_150 : decode b_Be_putQuotient 150 = .ok (.invokestatic 24, 3) := by decide +kernel
theorem d_Be_putQuotient_153 : decode b_Be_putQuotient 153 = .ok (.aload_n 1, 1) := by decide +kernel
theorem d_Be_putQuotient_154 : decode b_Be_putQuotient 154 = .ok (.iload 6, 2) := by decide +kernel
theorem d_Be_putQuotient_156 : decode b_Be_putQuotient 156 = .ok (.invokevirtual 34, 3) := by decide +kernel
theorem d_Be_putQuotient_159 : decode b_Be_putQuotient 159 = .ok (.aload_n 1, 1) := by decide +kernel
theorem d_Be_putQuotient_160 : decode b_Be_putQuotient 160 = .ok (.invokevirtual 60, 3) := by decide +kernel
theorem d_Be_putQuotient_163 : decode b_Be_putQuotient 163 = .ok (.istore 11, 2) := by decide +kernel
theorem d_Be_putQuotient_165 : decode b_Be_putQuotient 165 = .ok (.iload 5, 2) := by decide +kernel
theorem d_Be_putQuotient_167 : decode b_Be_putQuotient 167 = .ok (.iload 7, 2) := by decide +kernel
theorem d_Be_putQuotient_169 : decode b_Be_putQuotient 169 = .ok (.invokestatic 72, 3) := by decide +kernel
theorem d_Be_putQuotient_172 : decode b_Be_putQuotient 172 = .ok (.istore 12, 2) := by decide +kernel
theorem d_Be_putQuotient_174 : decode b_Be_putQuotient 174 = .ok (.aload_n 0, 1) := by decide +kernel
theorem d_Be_putQuotient_175 : decode b_Be_putQuotient 175 = .ok (.getfield 11, 3) := by decide +kernel
theorem d_Be_putQuotient_178 : decode b_Be_putQuotient 178 = .ok (.iconst 0, 1) := by decide +kernel
theorem d_Be_putQuotient_179 : decode b_Be_putQuotient 179 = .ok (.aload_n 2, 1) := by decide +kernel
theorem d_Be_putQuotient_180 : decode b_Be_putQuotient 180 = .ok (.getfield 21, 3) := by decide +kernel
theorem d_Be_putQuotient_183 : decode b_Be_putQuotient 183 = .ok (.iconst 0, 1) := by decide +kernel
theorem d_Be_putQuotient_184 : decode b_Be_putQuotient 184 = .ok (.iload 12, 2) := by decide +kernel
theorem d_Be_putQuotient_186 : decode b_Be_putQuotient 186 = .ok (.invokestatic 24, 3) := by decide +kernel
theorem d_Be_putQuotient_189 : decode b_Be_putQuotient 189 = .ok (.aload_n 2, 1) := by decide +kernel
theorem d_Be_putQuotient_190 : decode b_Be_putQuotient 190 = .ok (.iload 12, 2) := by decide +kernel
theorem d_Be_putQuotient_192 : decode b_Be_putQuotient 192 = .ok (.invokevirtual 34, 3) := by decide +kernel
theorem d_Be_putQuotient_195 : decode b_Be_putQuotient 195 = .ok (.aload_n 2, 1) := by decide +kernel
theorem d_Be_putQuotient_196 : decode b_Be_putQuotient 196 = .ok (.aload_n 2, 1) := by decide +kernel
theorem d_Be_putQuotient_197 : decode b_Be_putQuotient 197 = .ok (.iload 9, 2) := by decide +kernel
theorem d_Be_putQuotient_199 : decode b_Be_putQuotient 199 = .ok (.ineg, 1) := by decide +kernel
theorem d_Be_putQuotient_200 : decode b_Be_putQuotient 200 = .ok (.invokevirtual 75, 3) := by decide +kernel
theorem d_Be_putQuotient_203 : decode b_Be_putQuotient 203 = .ok (.iload 11, 2) := by decide +kernel
theorem d_Be_putQuotient_205 : decode b_Be_putQuotient 205 = .ok (.ireturn, 1) := by decide +kernel
theorem d_Be_layMoved_0 : decode b_Be_layMoved 0 = .ok (.iconst 0, 1) := by decide +kernel
theorem d_Be_layMoved_1 : decode b_Be_layMoved 1 = .ok (.istore 4, 2) := by decide +kernel
theorem d_Be_layMoved_3 : decode b_Be_layMoved 3 = .ok (.iconst 0, 1) := by decide +kernel
theorem d_Be_layMoved_4 : decode b_Be_layMoved 4 = .ok (.istore 5, 2) := by decide +kernel
theorem d_Be_layMoved_6 : decode b_Be_layMoved 6 = .ok (.iload 5, 2) := by decide +kernel
theorem d_Be_layMoved_8 : decode b_Be_layMoved 8 = .ok (.aload_n 2, 1) := by decide +kernel
theorem d_Be_layMoved_9 : decode b_Be_layMoved 9 = .ok (.getfield 15, 3) := by decide +kernel
theorem d_Be_layMoved_12 : decode b_Be_layMoved 12 = .ok (.if_icmp .ge 52, 3) := by decide +kernel
theorem d_Be_layMoved_15 : decode b_Be_layMoved 15 = .ok (.aload_n 2, 1) := by decide +kernel
theorem d_Be_layMoved_16 : decode b_Be_layMoved 16 = .ok (.getfield 21, 3) := by decide +kernel
theorem d_Be_layMoved_19 : decode b_Be_layMoved 19 = .ok (.iload 5, 2) := by decide +kernel
theorem d_Be_layMoved_21 : decode b_Be_layMoved 21 = .ok (.iaload, 1) := by decide +kernel
theorem d_Be_layMoved_22 : decode b_Be_layMoved 22 = .ok (.istore 6, 2) := by decide +kernel
theorem d_Be_layMoved_24 : decode b_Be_layMoved 24 = .ok (.aload_n 0, 1) := by decide +kernel
theorem d_Be_layMoved_25 : decode b_Be_layMoved 25 = .ok (.getfield 11, 3) := by decide +kernel
theorem d_Be_layMoved_28 : decode b_Be_layMoved 28 = .ok (.iload_n 1, 1) := by decide +kernel
theorem d_Be_layMoved_29 : decode b_Be_layMoved 29 = .ok (.iload 5, 2) := by decide +kernel
theorem d_Be_layMoved_31 : decode b_Be_layMoved 31 = .ok (.iadd, 1) := by decide +kernel
theorem d_Be_layMoved_32 : decode b_Be_layMoved 32 = .ok (.iload_n 3, 1) := by decide +kernel
theorem d_Be_layMoved_33 : decode b_Be_layMoved 33 = .ok (.ifCond .ne 8, 3) := by decide +kernel
theorem d_Be_layMoved_36 : decode b_Be_layMoved 36 = .ok (.iload 6, 2) := by decide +kernel
theorem d_Be_layMoved_38 : decode b_Be_layMoved 38 = .ok (.goto 15, 3) := by decide +kernel
theorem d_Be_layMoved_41 : decode b_Be_layMoved 41 = .ok (.iload 6, 2) := by decide +kernel
theorem d_Be_layMoved_43 : decode b_Be_layMoved 43 = .ok (.iload_n 3, 1) := by decide +kernel
theorem d_Be_layMoved_44 : decode b_Be_layMoved 44 = .ok (.ishl, 1) := by decide +kernel
theorem d_Be_layMoved_45 : decode b_Be_layMoved 45 = .ok (.iload 4, 2) := by decide +kernel
theorem d_Be_layMoved_47 : decode b_Be_layMoved 47 = .ok (.bipush 32, 2) := by decide +kernel
theorem d_Be_layMoved_49 : decode b_Be_layMoved 49 = .ok (.iload_n 3, 1) := by decide +kernel
theorem d_Be_layMoved_50 : decode b_Be_layMoved 50 = .ok (.isub, 1) := by decide +kernel
theorem d_Be_layMoved_51 : decode b_Be_layMoved 51 = .ok (.iushr, 1) := by decide +kernel
theorem d_Be_layMoved_52 : decode b_Be_layMoved 52 = .ok (.ior, 1) := by decide +kernel
theorem d_Be_layMoved_53 : decode b_Be_layMoved 53 = .ok (.iastore, 1) := by decide +kernel
theorem d_Be_layMoved_54 : decode b_Be_layMoved 54 = .ok (.iload 6, 2) := by decide +kernel
theorem d_Be_layMoved_56 : decode b_Be_layMoved 56 = .ok (.istore 4, 2) := by decide +kernel
theorem d_Be_layMoved_58 : decode b_Be_layMoved 58 = .ok (.iinc 5 1, 3) := by decide +kernel
theorem d_Be_layMoved_61 : decode b_Be_layMoved 61 = .ok (.goto (-55), 3) := by decide +kernel
theorem d_Be_layMoved_64 : decode b_Be_layMoved 64 = .ok (.aload_n 0, 1) := by decide +kernel
theorem d_Be_layMoved_65 : decode b_Be_layMoved 65 = .ok (.getfield 11, 3) := by decide +kernel
theorem d_Be_layMoved_68 : decode b_Be_layMoved 68 = .ok (.iload_n 1, 1) := by decide +kernel
theorem d_Be_layMoved_69 : decode b_Be_layMoved 69 = .ok (.aload_n 2, 1) := by decide +kernel
theorem d_Be_layMoved_70 : decode b_Be_layMoved 70 = .ok (.getfield 15, 3) := by decide +kernel
theorem d_Be_layMoved_73 : decode b_Be_layMoved 73 = .ok (.iadd, 1) := by decide +kernel
theorem d_Be_layMoved_74 : decode b_Be_layMoved 74 = .ok (.iload_n 3, 1) := by decide +kernel
theorem d_Be_layMoved_75 : decode b_Be_layMoved 75 = .ok (.ifCond .ne 7, 3) := by decide +kernel
theorem d_Be_layMoved_78 : decode b_Be_layMoved 78 = .ok (.iconst 0, 1) := by decide +kernel
theorem d_Be_layMoved_79 : decode b_Be_layMoved 79 = .ok (.goto 10, 3) := by decide +kernel
theorem d_Be_layMoved_82 : decode b_Be_layMoved 82 = .ok (.iload 4, 2) := by decide +kernel
theorem d_Be_layMoved_84 : decode b_Be_layMoved 84 = .ok (.bipush 32, 2) := by decide +kernel
theorem d_Be_layMoved_86 : decode b_Be_layMoved 86 = .ok (.iload_n 3, 1) := by decide +kernel
theorem d_Be_layMoved_87 : decode b_Be_layMoved 87 = .ok (.isub, 1) := by decide +kernel
theorem d_Be_layMoved_88 : decode b_Be_layMoved 88 = .ok (.iushr, 1) := by decide +kernel
theorem d_Be_layMoved_89 : decode b_Be_layMoved 89 = .ok (.iastore, 1) := by decide +kernel
theorem d_Be_layMoved_90 : decode b_Be_layMoved 90 = .ok (.return_, 1) := by decide +kernel
theorem d_Be_divideRun_0 : decode b_Be_divideRun 0 = .ok (.iload 5, 2) := by decide +kernel
theorem d_Be_divideRun_2 : decode b_Be_divideRun 2 = .ok (.bipush 80, 2) := by decide +kernel
theorem d_Be_divideRun_4 : decode b_Be_divideRun 4 = .ok (.if_icmp .lt 15, 3) := by decide +kernel
theorem d_Be_divideRun_7 : decode b_Be_divideRun 7 = .ok (.iload 4, 2) := by decide +kernel
theorem d_Be_divideRun_9 : decode b_Be_divideRun 9 = .ok (.bipush 80, 2) := by decide +kernel
theorem d_Be_divideRun_11 : decode b_Be_divideRun 11 = .ok (.if_icmp .lt 8, 3) := by decide +kernel
theorem d_Be_divideRun_14 : decode b_Be_divideRun 14 = .ok (.iload 7, 2) := by decide +kernel
theorem d_Be_divideRun_16 : decode b_Be_divideRun 16 = .ok (.ifCond .ne 15, 3) := by decide +kernel
theorem d_Be_divideRun_19 : decode b_Be_divideRun 19 = .ok (.aload_n 0, 1) := by decide +kernel
theorem d_Be_divideRun_20 : decode b_Be_divideRun 20 = .ok (.iload_n 1, 1) := by decide +kernel
theorem d_Be_divideRun_21 : decode b_Be_divideRun 21 = .ok (.iload_n 2, 1) := by decide +kernel
theorem d_Be_divideRun_22 : decode b_Be_divideRun 22 = .ok (.iload_n 3, 1) := by decide +kernel
theorem d_Be_divideRun_23 : decode b_Be_divideRun 23 = .ok (.iload 4, 2) := by decide +kernel
theorem d_Be_divideRun_25 : decode b_Be_divideRun 25 = .ok (.iload 5, 2) := by decide +kernel
theorem d_Be_divideRun_27 : decode b_Be_divideRun 27 = .ok (.invokevirtual 116, 3) := by decide +kernel
theorem d_Be_divideRun_30 : decode b_Be_divideRun 30 = .ok (.ireturn, 1) := by decide +kernel
theorem d_Be_divideRun_31 : decode b_Be_divideRun 31 = .ok (.iload 5, 2) := by decide +kernel
theorem d_Be_divideRun_33 : decode b_Be_divideRun 33 = .ok (.iload 4, 2) := by decide +kernel
theorem d_Be_divideRun_35 : decode b_Be_divideRun 35 = .ok (.if_icmp .ge 21, 3) := by decide +kernel
theorem d_Be_divideRun_38 : decode b_Be_divideRun 38 = .ok (.aload_n 0, 1) := by decide +kernel
theorem d_Be_divideRun_39 : decode b_Be_divideRun 39 = .ok (.iload_n 1, 1) := by decide +kernel
theorem d_Be_divideRun_40 : decode b_Be_divideRun 40 = .ok (.iload_n 2, 1) := by decide +kernel
theorem d_Be_divideRun_41 : decode b_Be_divideRun 41 = .ok (.iload_n 3, 1) := by decide +kernel
theorem d_Be_divideRun_42 : decode b_Be_divideRun 42 = .ok (.iload 4, 2) := by decide +kernel
theorem d_Be_divideRun_44 : decode b_Be_divideRun 44 = .ok (.iload 5, 2) := by decide +kernel
theorem d_Be_divideRun_46 : decode b_Be_divideRun 46 = .ok (.iload 6, 2) := by decide +kernel
theorem d_Be_divideRun_48 : decode b_Be_divideRun 48 = .ok (.iload 7, 2) := by decide +kernel
theorem d_Be_divideRun_50 : decode b_Be_divideRun 50 = .ok (.iconst 1, 1) := by decide +kernel
theorem d_Be_divideRun_51 : decode b_Be_divideRun 51 = .ok (.isub, 1) := by decide +kernel
theorem d_Be_divideRun_52 : decode b_Be_divideRun 52 = .ok (.invokevirtual 120, 3) := by decide +kernel
theorem d_Be_divideRun_55 : decode b_Be_divideRun 55 = .ok (.ireturn, 1) := by decide +kernel
theorem d_Be_divideRun_56 : decode b_Be_divideRun 56 = .ok (.iload 5, 2) := by decide +kernel
theorem d_Be_divideRun_58 : decode b_Be_divideRun 58 = .ok (.iconst 2, 1) := by decide +kernel
theorem d_Be_divideRun_59 : decode b_Be_divideRun 59 = .ok (.idiv, 1) := by decide +kernel
theorem d_Be_divideRun_60 : decode b_Be_divideRun 60 = .ok (.istore 8, 2) := by decide +kernel
theorem d_Be_divideRun_62 : decode b_Be_divideRun 62 = .ok (.aload_n 0, 1) := by decide +kernel
theorem d_Be_divideRun_63 : decode b_Be_divideRun 63 = .ok (.iload_n 1, 1) := by decide +kernel
theorem d_Be_divideRun_64 : decode b_Be_divideRun 64 = .ok (.iload 8, 2) := by decide +kernel
theorem d_Be_divideRun_66 : decode b_Be_divideRun 66 = .ok (.iadd, 1) := by decide +kernel
theorem d_Be_divideRun_67 : decode b_Be_divideRun 67 = .ok (.iload_n 2, 1) := by decide +kernel
theorem d_Be_divideRun_68 : decode b_Be_divideRun 68 = .ok (.iload 8, 2) := by decide +kernel
theorem d_Be_divideRun_70 : decode b_Be_divideRun 70 = .ok (.iadd, 1) := by decide +kernel
theorem d_Be_divideRun_71 : decode b_Be_divideRun 71 = .ok (.iload_n 3, 1) := by decide +kernel
theorem d_Be_divideRun_72 : decode b_Be_divideRun 72 = .ok (.iload 4, 2) := by decide +kernel
theorem d_Be_divideRun_74 : decode b_Be_divideRun 74 = .ok (.iload 5, 2) := by decide +kernel
theorem d_Be_divideRun_76 : decode b_Be_divideRun 76 = .ok (.iload 8, 2) := by decide +kernel
theorem d_Be_divideRun_78 : decode b_Be_divideRun 78 = .ok (.isub, 1) := by decide +kernel
theorem d_Be_divideRun_79 : decode b_Be_divideRun 79 = .ok (.iload 6, 2) := by decide +kernel
theorem d_Be_divideRun_81 : decode b_Be_divideRun 81 = .ok (.iload 7, 2) := by decide +kernel
theorem d_Be_divideRun_83 : decode b_Be_divideRun 83 = .ok (.iconst 1, 1) := by decide +kernel
theorem d_Be_divideRun_84 : decode b_Be_divideRun 84 = .ok (.isub, 1) := by decide +kernel
theorem d_Be_divideRun_85 : decode b_Be_divideRun 85 = .ok (.invokevirtual 120, 3) := by decide +kernel
theorem d_Be_divideRun_88 : decode b_Be_divideRun 88 = .ok (.istore 9, 2) := by decide +kernel
theorem d_Be_divideRun_90 : decode b_Be_divideRun 90 = .ok (.aload_n 0, 1) := by decide +kernel
theorem d_Be_divideRun_91 : decode b_Be_divideRun 91 = .ok (.iload_n 1, 1) := by decide +kernel
theorem d_Be_divideRun_92 : decode b_Be_divideRun 92 = .ok (.iload_n 2, 1) := by decide +kernel
theorem d_Be_divideRun_93 : decode b_Be_divideRun 93 = .ok (.iload_n 3, 1) := by decide +kernel
theorem d_Be_divideRun_94 : decode b_Be_divideRun 94 = .ok (.iload 4, 2) := by decide +kernel
theorem d_Be_divideRun_96 : decode b_Be_divideRun 96 = .ok (.iload 8, 2) := by decide +kernel
theorem d_Be_divideRun_98 : decode b_Be_divideRun 98 = .ok (.iload 6, 2) := by decide +kernel
theorem d_Be_divideRun_100 : decode b_Be_divideRun 100 = .ok (.iload 7, 2) := by decide +kernel
theorem d_Be_divideRun_102 : decode b_Be_divideRun 102 = .ok (.iconst 1, 1) := by decide +kernel
theorem d_Be_divideRun_103 : decode b_Be_divideRun 103 = .ok (.isub, 1) := by decide +kernel
theorem d_Be_divideRun_104 : decode b_Be_divideRun 104 = .ok (.invokevirtual 120, 3) := by decide +kernel
theorem d_Be_divideRun_107 : decode b_Be_divideRun 107 = .ok (.pop, 1) := by decide +kernel
theorem d_Be_divideRun_108 : decode b_Be_divideRun 108 = .ok (.iload 9, 2) := by decide +kernel
theorem d_Be_divideRun_110 : decode b_Be_divideRun 110 = .ok (.ireturn, 1) := by decide +kernel
theorem d_Be_dividePlain_0 : decode b_Be_dividePlain 0 = .ok (.iconst 0, 1) := by decide +kernel
theorem d_Be_dividePlain_1 : decode b_Be_dividePlain 1 = .ok (.istore 6, 2) := by decide +kernel
theorem d_Be_dividePlain_3 : decode b_Be_dividePlain 3 = .ok (.aload_n 0, 1) := by decide +kernel
theorem d_Be_dividePlain_4 : decode b_Be_dividePlain 4 = .ok (.iload_n 2, 1) := by decide +kernel
theorem d_Be_dividePlain_5 : decode b_Be_dividePlain 5 = .ok (.iload 5, 2) := by decide +kernel
theorem d_Be_dividePlain_7 : decode b_Be_dividePlain 7 = .ok (.iadd, 1) := by decide +kernel
theorem d_Be_dividePlain_8 : decode b_Be_dividePlain 8 = .ok (.iload_n 3, 1) := by decide +kernel
theorem d_Be_dividePlain_9 : decode b_Be_dividePlain 9 = .ok (.iload 4, 2) := by decide +kernel
theorem d_Be_dividePlain_11 : decode b_Be_dividePlain 11 = .ok (.invokevirtual 126, 3) := by decide +kernel
theorem d_Be_dividePlain_14 : decode b_Be_dividePlain 14 = .ok (.ifCond .eq 20, 3) := by decide +kernel
theorem d_Be_dividePlain_17 : decode b_Be_dividePlain 17 = .ok (.aload_n 0, 1) := by decide +kernel
theorem d_Be_dividePlain_18 : decode b_Be_dividePlain 18 = .ok (.iload_n 2, 1) := by decide +kernel
theorem d_Be_dividePlain_19 : decode b_Be_dividePlain 19 = .ok (.iload 5, 2) := by decide +kernel
theorem d_Be_dividePlain_21 : decode b_Be_dividePlain 21 = .ok (.iadd, 1) := by decide +kernel
theorem d_Be_dividePlain_22 : decode b_Be_dividePlain 22 = .ok (.iload 4, 2) := by decide +kernel
theorem d_Be_dividePlain_24 : decode b_Be_dividePlain 24 = .ok (.iload_n 3, 1) := by decide +kernel
theorem d_Be_dividePlain_25 : decode b_Be_dividePlain 25 = .ok (.iload 4, 2) := by decide +kernel
theorem d_Be_dividePlain_27 : decode b_Be_dividePlain 27 = .ok (.invokevirtual 113, 3) := by decide +kernel
theorem d_Be_dividePlain_30 : decode b_Be_dividePlain 30 = .ok (.pop, 1) := by decide +kernel
theorem d_Be_dividePlain_31 : decode b_Be_dividePlain 31 = .ok (.iconst 1, 1) := by decide +kernel
theorem d_Be_dividePlain_32 : decode b_Be_dividePlain 32 = .ok (.istore 6, 2) := by decide +kernel
theorem d_Be_dividePlain_34 : decode b_Be_dividePlain 34 = .ok (.iload 5, 2) := by decide +kernel
theorem d_Be_dividePlain_36 : decode b_Be_dividePlain 36 = .ok (.iconst 1, 1) := by decide +kernel
theorem d_Be_dividePlain_37 : decode b_Be_dividePlain 37 = .ok (.isub, 1) := by decide +kernel
theorem d_Be_dividePlain_38 : decode b_Be_dividePlain 38 = .ok (.istore 7, 2) := by decide +kernel
theorem d_Be_dividePlain_40 : decode b_Be_dividePlain 40 = .ok (.iload 7, 2) := by decide +kernel
theorem d_Be_dividePlain_42 : decode b_Be_dividePlain 42 = .ok (.ifCond .lt 114, 3) := by decide +kernel
theorem d_Be_dividePlain_45 : decode b_Be_dividePlain 45 = .ok (.aload_n 0, 1) := by decide +kernel
theorem d_Be_dividePlain_46 : decode b_Be_dividePlain 46 = .ok (.iload_n 2, 1) := by decide +kernel
theorem d_Be_dividePlain_47 : decode b_Be_dividePlain 47 = .ok (.iload 7, 2) := by decide +kernel
theorem d_Be_dividePlain_49 : decode b_Be_dividePlain 49 = .ok (.iadd, 1) := by decide +kernel
theorem d_Be_dividePlain_50 : decode b_Be_dividePlain 50 = .ok (.iload_n 3, 1) := by decide +kernel
theorem d_Be_dividePlain_51 : decode b_Be_dividePlain 51 = .ok (.iload 4, 2) := by decide +kernel
theorem d_Be_dividePlain_53 : decode b_Be_dividePlain 53 = .ok (.invokevirtual 130, 3) := by decide +kernel
theorem d_Be_dividePlain_56 : decode b_Be_dividePlain 56 = .ok (.lstore 8, 2) := by decide +kernel
theorem d_Be_dividePlain_58 : decode b_Be_dividePlain 58 = .ok (.aload_n 0, 1) := by decide +kernel
theorem d_Be_dividePlain_59 : decode b_Be_dividePlain 59 = .ok (.getfield 11, 3) := by decide +kernel
theorem d_Be_dividePlain_62 : decode b_Be_dividePlain 62 = .ok (.iload_n 2, 1) := by decide +kernel
theorem d_Be_dividePlain_63 : decode b_Be_dividePlain 63 = .ok (.iload 7, 2) := by decide +kernel
theorem d_Be_dividePlain_65 : decode b_Be_dividePlain 65 = .ok (.iadd, 1) := by decide +kernel
theorem d_Be_dividePlain_66 : decode b_Be_dividePlain 66 = .ok (.iload 4, 2) := by decide +kernel
theorem d_Be_dividePlain_68 : decode b_Be_dividePlain 68 = .ok (.iadd, 1) := by decide +kernel
theorem d_Be_dividePlain_69 : decode b_Be_dividePlain 69 = .ok (.iaload, 1) := by decide +kernel
theorem d_Be_dividePlain_70 : decode b_Be_dividePlain 70 = .ok (.i2l, 1) := by decide +kernel
theorem d_Be_dividePlain_71 : decode b_Be_dividePlain 71 = .ok (.ldc2_w 99, 3) := by decide +kernel
theorem d_Be_dividePlain_74 : decode b_Be_dividePlain 74 = .ok (.land, 1) := by decide +kernel
theorem d_Be_dividePlain_75 : decode b_Be_dividePlain 75 = .ok (.aload_n 0, 1) := by decide +kernel
theorem d_Be_dividePlain_76 : decode b_Be_dividePlain 76 = .ok (.iload_n 2, 1) := by decide +kernel
theorem d_Be_dividePlain_77 : decode b_Be_dividePlain 77 = .ok (.iload 7, 2) := by decide +kernel
theorem d_Be_dividePlain_79 : decode b_Be_dividePlain 79 = .ok (.iadd, 1) := by decide +kernel
theorem d_Be_dividePlain_80 : decode b_Be_dividePlain 80 = .ok (.iload_n 3, 1) := by decide +kernel
theorem d_Be_dividePlain_81 : decode b_Be_dividePlain 81 = .ok (.iload 4, 2) := by decide +kernel
theorem d_Be_dividePlain_83 : decode b_Be_dividePlain 83 = .ok (.lload 8, 2) := by decide +kernel
theorem d_Be_dividePlain_85 : decode b_Be_dividePlain 85 = .ok (.invokevirtual 134, 3) := by decide +kernel
theorem d_Be_dividePlain_88 : decode b_Be_dividePlain 88 = .ok (.lsub, 1) := by decide +kernel
theorem d_Be_dividePlain_89 : decode b_Be_dividePlain 89 = .ok (.lstore 10, 2) := by decide +kernel
theorem d_Be_dividePlain_91 : decode b_Be_dividePlain 91 = .ok (.lload 10, 2) := by decide +kernel
theorem d_Be_dividePlain_93 : decode b_Be_dividePlain 93 = .ok (.lconst 0, 1) := by decide +kernel
theorem d_Be_dividePlain_94 : decode b_Be_dividePlain 94 = .ok (.lcmp, 1) := by decide +kernel
theorem d_Be_dividePlain_95 : decode b_Be_dividePlain 95 = .ok (.ifCond .ge 28, 3) := by decide +kernel
theorem d_Be_dividePlain_98 : decode b_Be_dividePlain 98 = .ok (.lload 8, 2) := by decide +kernel
theorem d_Be_dividePlain_100 : decode b_Be_dividePlain 100 = .ok (.lconst 1, 1) := by decide +kernel
theorem d_Be_dividePlain_101 : decode b_Be_dividePlain 101 = .ok (.lsub, 1) := by decide +kernel
theorem d_Be_dividePlain_102 : decode b_Be_dividePlain 102 = .ok (.lstore 8, 2) := by decide +kernel
theorem d_Be_dividePlain_104 : decode b_Be_dividePlain 104 = .ok (.lload 10, 2) := by decide +kernel
theorem d_Be_dividePlain_106 : decode b_Be_dividePlain 106 = .ok (.aload_n 0, 1) := by decide +kernel
theorem d_Be_dividePlain_107 : decode b_Be_dividePlain 107 = .ok (.iload_n 2, 1) := by decide +kernel
theorem d_Be_dividePlain_108 : decode b_Be_dividePlain 108 = .ok (.iload 7, 2) := by decide +kernel
theorem d_Be_dividePlain_110 : decode b_Be_dividePlain 110 = .ok (.iadd, 1) := by decide +kernel
theorem d_Be_dividePlain_111 : decode b_Be_dividePlain 111 = .ok (.iload 4, 2) := by decide +kernel
theorem d_Be_dividePlain_113 : decode b_Be_dividePlain 113 = .ok (.iload_n 3, 1) := by decide +kernel
theorem d_Be_dividePlain_114 : decode b_Be_dividePlain 114 = .ok (.iload 4, 2) := by decide +kernel
theorem d_Be_dividePlain_116 : decode b_Be_dividePlain 116 = .ok (.invokevirtual 105, 3) := by decide +kernel
theorem d_Be_dividePlain_119 : decode b_Be_dividePlain 119 = .ok (.i2l, 1) := by decide +kernel
theorem d_Be_dividePlain_120 : decode b_Be_dividePlain 120 = .ok (.ladd, 1) := by decide +kernel
theorem d_Be_dividePlain_121 : decode b_Be_dividePlain 121 = .ok (.lstore 10, 2) := by decide +kernel
theorem d_Be_dividePlain_123 : decode b_Be_dividePlain 123 = .ok (.aload_n 0, 1) := by decide +kernel
theorem d_Be_dividePlain_124 : decode b_Be_dividePlain 124 = .ok (.getfield 11, 3) := by decide +kernel
theorem d_Be_dividePlain_127 : decode b_Be_dividePlain 127 = .ok (.iload_n 2, 1) := by decide +kernel
theorem d_Be_dividePlain_128 : decode b_Be_dividePlain 128 = .ok (.iload 7, 2) := by decide +kernel
theorem d_Be_dividePlain_130 : decode b_Be_dividePlain 130 = .ok (.iadd, 1) := by decide +kernel
theorem d_Be_dividePlain_131 : decode b_Be_dividePlain 131 = .ok (.iload 4, 2) := by decide +kernel
theorem d_Be_dividePlain_133 : decode b_Be_dividePlain 133 = .ok (.iadd, 1) := by decide +kernel
theorem d_Be_dividePlain_134 : decode b_Be_dividePlain 134 = .ok (.lload 10, 2) := by decide +kernel
theorem d_Be_dividePlain_136 : decode b_Be_dividePlain 136 = .ok (.l2i, 1) := by decide +kernel
theorem d_Be_dividePlain_137 : decode b_Be_dividePlain 137 = .ok (.iastore, 1) := by decide +kernel
theorem d_Be_dividePlain_138 : decode b_Be_dividePlain 138 = .ok (.aload_n 0, 1) := by decide +kernel
theorem d_Be_dividePlain_139 : decode b_Be_dividePlain 139 = .ok (.getfield 11, 3) := by decide +kernel
theorem d_Be_dividePlain_142 : decode b_Be_dividePlain 142 = .ok (.iload_n 1, 1) := by decide +kernel
theorem d_Be_dividePlain_143 : decode b_Be_dividePlain 143 = .ok (.iload 7, 2) := by decide +kernel
theorem d_Be_dividePlain_145 : decode b_Be_dividePlain 145 = .ok (.iadd, 1) := by decide +kernel
theorem d_Be_dividePlain_146 : decode b_Be_dividePlain 146 = .ok (.lload 8, 2) := by decide +kernel
theorem d_Be_dividePlain_148 : decode b_Be_dividePlain 148 = .ok (.l2i, 1) := by decide +kernel
theorem d_Be_dividePlain_149 : decode b_Be_dividePlain 149 = .ok (.iastore, 1) := by decide +kernel
theorem d_Be_dividePlain_150 : decode b_Be_dividePlain 150 = .ok (.iinc 7 (-1), 3) := by decide +kernel
theorem d_Be_dividePlain_153 : decode b_Be_dividePlain 153 = .ok (.goto (-113), 3) := by decide +kernel
theorem d_Be_dividePlain_156 : decode b_Be_dividePlain 156 = .ok (.iload 6, 2) := by decide +kernel
theorem d_Be_dividePlain_158 : decode b_Be_dividePlain 158 = .ok (.ireturn, 1) := by decide +kernel
theorem d_Be_isNotLess_0 : decode b_Be_isNotLess 0 = .ok (.iload_n 3, 1) := by decide +kernel
theorem d_Be_isNotLess_1 : decode b_Be_isNotLess 1 = .ok (.iconst 1, 1) := by decide +kernel
theorem d_Be_isNotLess_2 : decode b_Be_isNotLess 2 = .ok (.isub, 1) := by decide +kernel
theorem d_Be_isNotLess_3 : decode b_Be_isNotLess 3 = .ok (.istore 4, 2) := by decide +kernel
theorem d_Be_isNotLess_5 : decode b_Be_isNotLess 5 = .ok (.iload 4, 2) := by decide +kernel
theorem d_Be_isNotLess_7 : decode b_Be_isNotLess 7 = .ok (.ifCond .lt 68, 3) := by decide +kernel
theorem d_Be_isNotLess_10 : decode b_Be_isNotLess 10 = .ok (.aload_n 0, 1) := by decide +kernel
theorem d_Be_isNotLess_11 : decode b_Be_isNotLess 11 = .ok (.getfield 11, 3) := by decide +kernel
theorem d_Be_isNotLess_14 : decode b_Be_isNotLess 14 = .ok (.iload_n 1, 1) := by decide +kernel
theorem d_Be_isNotLess_15 : decode b_Be_isNotLess 15 = .ok (.iload 4, 2) := by decide +kernel
theorem d_Be_isNotLess_17 : decode b_Be_isNotLess 17 = .ok (.iadd, 1) := by decide +kernel
theorem d_Be_isNotLess_18 : decode b_Be_isNotLess 18 = .ok (.iaload, 1) := by decide +kernel
theorem d_Be_isNotLess_19 : decode b_Be_isNotLess 19 = .ok (.aload_n 0, 1) := by decide +kernel
theorem d_Be_isNotLess_20 : decode b_Be_isNotLess 20 = .ok (.getfield 11, 3) := by decide +kernel
theorem d_Be_isNotLess_23 : decode b_Be_isNotLess 23 = .ok (.iload_n 2, 1) := by decide +kernel
theorem d_Be_isNotLess_24 : decode b_Be_isNotLess 24 = .ok (.iload 4, 2) := by decide +kernel
theorem d_Be_isNotLess_26 : decode b_Be_isNotLess 26 = .ok (.iadd, 1) := by decide +kernel
theorem d_Be_isNotLess_27 : decode b_Be_isNotLess 27 = .ok (.iaload, 1) := by decide +kernel
theorem d_Be_isNotLess_28 : decode b_Be_isNotLess 28 = .ok (.if_icmp .eq 41, 3) := by decide +kernel
theorem d_Be_isNotLess_31 : decode b_Be_isNotLess 31 = .ok (.aload_n 0, 1) := by decide +kernel
theorem d_Be_isNotLess_32 : decode b_Be_isNotLess 32 = .ok (.getfield 11, 3) := by decide +kernel
theorem d_Be_isNotLess_35 : decode b_Be_isNotLess 35 = .ok (.iload_n 1, 1) := by decide +kernel
theorem d_Be_isNotLess_36 : decode b_Be_isNotLess 36 = .ok (.iload 4, 2) := by decide +kernel
theorem d_Be_isNotLess_38 : decode b_Be_isNotLess 38 = .ok (.iadd, 1) := by decide +kernel
theorem d_Be_isNotLess_39 : decode b_Be_isNotLess 39 = .ok (.iaload, 1) := by decide +kernel
theorem d_Be_isNotLess_40 : decode b_Be_isNotLess 40 = .ok (.i2l, 1) := by decide +kernel
theorem d_Be_isNotLess_41 : decode b_Be_isNotLess 41 = .ok (.ldc2_w 99, 3) := by decide +kernel
theorem d_Be_isNotLess_44 : decode b_Be_isNotLess 44 = .ok (.land, 1) := by decide +kernel
theorem d_Be_isNotLess_45 : decode b_Be_isNotLess 45 = .ok (.aload_n 0, 1) := by decide +kernel
theorem d_Be_isNotLess_46 : decode b_Be_isNotLess 46 = .ok (.getfield 11, 3) := by decide +kernel
theorem d_Be_isNotLess_49 : decode b_Be_isNotLess 49 = .ok (.iload_n 2, 1) := by decide +kernel
theorem d_Be_isNotLess_50 : decode b_Be_isNotLess 50 = .ok (.iload 4, 2) := by decide +kernel
theorem d_Be_isNotLess_52 : decode b_Be_isNotLess 52 = .ok (.iadd, 1) := by decide +kernel
theorem d_Be_isNotLess_53 : decode b_Be_isNotLess 53 = .ok (.iaload, 1) := by decide +kernel
theorem d_Be_isNotLess_54 : decode b_Be_isNotLess 54 = .ok (.i2l, 1) := by decide +kernel
theorem d_Be_isNotLess_55 : decode b_Be_isNotLess 55 = .ok (.ldc2_w 99, 3) := by decide +kernel
theorem d_Be_isNotLess_58 : decode b_Be_isNotLess 58 = .ok (.land, 1) := by decide +kernel
theorem d_Be_isNotLess_59 : decode b_Be_isNotLess 59 = .ok (.lcmp, 1) := by decide +kernel
theorem d_Be_isNotLess_60 : decode b_Be_isNotLess 60 = .ok (.ifCond .le 7, 3) := by decide +kernel
theorem d_Be_isNotLess_63 : decode b_Be_isNotLess 63 = .ok (.iconst 1, 1) := by decide +kernel
theorem d_Be_isNotLess_64 : decode b_Be_isNotLess 64 = .ok (.goto 4, 3) := by decide +kernel
theorem d_Be_isNotLess_67 : decode b_Be_isNotLess 67 = .ok (.iconst 0, 1) := by decide +kernel
theorem d_Be_isNotLess_68 : decode b_Be_isNotLess 68 = .ok (.ireturn, 1) := by decide +kernel
theorem d_Be_isNotLess_69 : decode b_Be_isNotLess 69 = .ok (.iinc 4 (-1), 3) := by decide +kernel
theorem d_Be_isNotLess_72 : decode b_Be_isNotLess 72 = .ok (.goto (-67), 3) := by decide +kernel
theorem d_Be_isNotLess_75 : decode b_Be_isNotLess 75 = .ok (.iconst 1, 1) := by decide +kernel
theorem d_Be_isNotLess_76 : decode b_Be_isNotLess 76 = .ok (.ireturn, 1) := by decide +kernel
theorem d_Be_guessWord_0 : decode b_Be_guessWord 0 = .ok (.aload_n 0, 1) := by decide +kernel
theorem d_Be_guessWord_1 : decode b_Be_guessWord 1 = .ok (.getfield 11, 3) := by decide +kernel
theorem d_Be_guessWord_4 : decode b_Be_guessWord 4 = .ok (.iload_n 1, 1) := by decide +kernel
theorem d_Be_guessWord_5 : decode b_Be_guessWord 5 = .ok (.iload_n 3, 1) := by decide +kernel
theorem d_Be_guessWord_6 : decode b_Be_guessWord 6 = .ok (.iadd, 1) := by decide +kernel
theorem d_Be_guessWord_7 : decode b_Be_guessWord 7 = .ok (.iaload, 1) := by decide +kernel
theorem d_Be_guessWord_8 : decode b_Be_guessWord 8 = .ok (.i2l, 1) := by decide +kernel
theorem d_Be_guessWord_9 : decode b_Be_guessWord 9 = .ok (.ldc2_w 99, 3) := by decide +kernel
theorem d_Be_guessWord_12 : decode b_Be_guessWord 12 = .ok (.land, 1) := by decide +kernel
theorem d_Be_guessWord_13 : decode b_Be_guessWord 13 = .ok (.lstore 4, 2) := by decide +kernel
theorem d_Be_guessWord_15 : decode b_Be_guessWord 15 = .ok (.lload 4, 2) := by decide +kernel
theorem d_Be_guessWord_17 : decode b_Be_guessWord 17 = .ok (.bipush 32, 2) := by decide +kernel
theorem d_Be_guessWord_19 : decode b_Be_guessWord 19 = .ok (.lshl, 1) := by decide +kernel
theorem d_Be_guessWord_20 : decode b_Be_guessWord 20 = .ok (.aload_n 0, 1) := by decide +kernel
theorem d_Be_guessWord_21 : decode b_Be_guessWord 21 = .ok (.getfield 11, 3) := by decide +kernel
theorem d_Be_guessWord_24 : decode b_Be_guessWord 24 = .ok (.iload_n 1, 1) := by decide +kernel
theorem d_Be_guessWord_25 : decode b_Be_guessWord 25 = .ok (.iload_n 3, 1) := by decide +kernel
theorem d_Be_guessWord_26 : decode b_Be_guessWord 26 = .ok (.iadd, 1) := by decide +kernel
theorem d_Be_guessWord_27 : decode b_Be_guessWord 27 = .ok (.iconst 1, 1) := by decide +kernel
theorem d_Be_guessWord_28 : decode b_Be_guessWord 28 = .ok (.isub, 1) := by decide +kernel
theorem d_Be_guessWord_29 : decode b_Be_guessWord 29 = .ok (.iaload, 1) := by decide +kernel
theorem d_Be_guessWord_30 : decode b_Be_guessWord 30 = .ok (.i2l, 1) := by decide +kernel
theorem d_Be_guessWord_31 : decode b_Be_guessWord 31 = .ok (.ldc2_w 99, 3) := by decide +kernel
theorem d_Be_guessWord_34 : decode b_Be_guessWord 34 = .ok (.land, 1) := by decide +kernel
theorem d_Be_guessWord_35 : decode b_Be_guessWord 35 = .ok (.lor, 1) := by decide +kernel
theorem d_Be_guessWord_36 : decode b_Be_guessWord 36 = .ok (.lstore 6, 2) := by decide +kernel
theorem d_Be_guessWord_38 : decode b_Be_guessWord 38 = .ok (.aload_n 0, 1) := by decide +kernel
theorem d_Be_guessWord_39 : decode b_Be_guessWord 39 = .ok (.getfield 11, 3) := by decide +kernel
theorem d_Be_guessWord_42 : decode b_Be_guessWord 42 = .ok (.iload_n 2, 1) := by decide +kernel
theorem d_Be_guessWord_43 : decode b_Be_guessWord 43 = .ok (.iload_n 3, 1) := by decide +kernel
theorem d_Be_guessWord_44 : decode b_Be_guessWord 44 = .ok (.iadd, 1) := by decide +kernel
theorem d_Be_guessWord_45 : decode b_Be_guessWord 45 = .ok (.iconst 1, 1) := by decide +kernel
theorem d_Be_guessWord_46 : decode b_Be_guessWord 46 = .ok (.isub, 1) := by decide +kernel
theorem d_Be_guessWord_47 : decode b_Be_guessWord 47 = .ok (.iaload, 1) := by decide +kernel
theorem d_Be_guessWord_48 : decode b_Be_guessWord 48 = .ok (.i2l, 1) := by decide +kernel
theorem d_Be_guessWord_49 : decode b_Be_guessWord 49 = .ok (.ldc2_w 99, 3) := by decide +kernel
theorem d_Be_guessWord_52 : decode b_Be_guessWord 52 = .ok (.land, 1) := by decide +kernel
theorem d_Be_guessWord_53 : decode b_Be_guessWord 53 = .ok (.lstore 8, 2) := by decide +kernel
theorem d_Be_guessWord_55 : decode b_Be_guessWord 55 = .ok (.lload 4, 2) := by decide +kernel
theorem d_Be_guessWord_57 : decode b_Be_guessWord 57 = .ok (.lload 8, 2) := by decide +kernel
theorem d_Be_guessWord_59 : decode b_Be_guessWord 59 = .ok (.lcmp, 1) := by decide +kernel
theorem d_Be_guessWord_60 : decode b_Be_guessWord 60 = .ok (.ifCond .ge 13, 3) := by decide +kernel
theorem d_Be_guessWord_63 : decode b_Be_guessWord 63 = .ok (.lload 6, 2) := by decide +kernel
theorem d_Be_guessWord_65 : decode b_Be_guessWord 65 = .ok (.lload 8, 2) := by decide +kernel
theorem d_Be_guessWord_67 : decode b_Be_guessWord 67 = .ok (.invokestatic 138, 3) := by decide +kernel
theorem d_Be_guessWord_70 : decode b_Be_guessWord 70 = .ok (.goto 6, 3) := by decide +kernel
theorem d_Be_guessWord_73 : decode b_Be_guessWord 73 = .ok (.ldc2_w 99, 3) := by decide +kernel
theorem d_Be_guessWord_76 : decode b_Be_guessWord 76 = .ok (.lstore 10, 2) := by decide +kernel
theorem d_Be_guessWord_78 : decode b_Be_guessWord 78 = .ok (.iload_n 3, 1) := by decide +kernel
theorem d_Be_guessWord_79 : decode b_Be_guessWord 79 = .ok (.iconst 1, 1) := by decide +kernel
theorem d_Be_guessWord_80 : decode b_Be_guessWord 80 = .ok (.if_icmp .ne 6, 3) := by decide +kernel
theorem d_Be_guessWord_83 : decode b_Be_guessWord 83 = .ok (.lload 10, 2) := by decide +kernel
theorem d_Be_guessWord_85 : decode b_Be_guessWord 85 = .ok (.lreturn, 1) := by decide +kernel
theorem d_Be_guessWord_86 : decode b_Be_guessWord 86 = .ok (.lload 6, 2) := by decide +kernel
theorem d_Be_guessWord_88 : decode b_Be_guessWord 88 = .ok (.lload 10, 2) := by decide +kernel
theorem d_Be_guessWord_90 : decode b_Be_guessWord 90 = .ok (.lload 8, 2) := by decide +kernel
theorem d_Be_guessWord_92 : decode b_Be_guessWord 92 = .ok (.lmul, 1) := by decide +kernel
theorem d_Be_guessWord_93 : decode b_Be_guessWord 93 = .ok (.lsub, 1) := by decide +kernel
theorem d_Be_guessWord_94 : decode b_Be_guessWord 94 = .ok (.lstore 12, 2) := by decide +kernel
theorem d_Be_guessWord_96 : decode b_Be_guessWord 96 = .ok (.lload 10, 2) := by decide +kernel
theorem d_Be_guessWord_98 : decode b_Be_guessWord 98 = .ok (.aload_n 0, 1) := by decide +kernel
theorem d_Be_guessWord_99 : decode b_Be_guessWord 99 = .ok (.getfield 11, 3) := by decide +kernel
theorem d_Be_guessWord_102 : decode b_Be_guessWord 102 = .ok (.iload_n 2, 1) := by decide +kernel
theorem d_Be_guessWord_103 : decode b_Be_guessWord 103 = .ok (.iload_n 3, 1) := by decide +kernel
theorem d_Be_guessWord_104 : decode b_Be_guessWord 104 = .ok (.iadd, 1) := by decide +kernel
theorem d_Be_guessWord_105 : decode b_Be_guessWord 105 = .ok (.iconst 2, 1) := by decide +kernel
theorem d_Be_guessWord_106 : decode b_Be_guessWord 106 = .ok (.isub, 1) := by decide +kernel
theorem d_Be_guessWord_107 : decode b_Be_guessWord 107 = .ok (.iaload, 1) := by decide +kernel
theorem d_Be_guessWord_108 : decode b_Be_guessWord 108 = .ok (.i2l, 1) := by decide +kernel
theorem d_Be_guessWord_109 : decode b_Be_guessWord 109 = .ok (.ldc2_w 99, 3) := by decide +kernel
theorem d_Be_guessWord_112 : decode b_Be_guessWord 112 = .ok (.land, 1) := by decide +kernel
theorem d_Be_guessWord_113 : decode b_Be_guessWord 113 = .ok (.lmul, 1) := by decide +kernel
theorem d_Be_guessWord_114 : decode b_Be_guessWord 114 = .ok (.lstore 14, 2) := by decide +kernel
theorem d_Be_guessWord_116 : decode b_Be_guessWord 116 = .ok (.lload 14, 2) := by decide +kernel
theorem d_Be_guessWord_118 : decode b_Be_guessWord 118 = .ok (.bipush 32, 2) := by decide +kernel
theorem d_Be_guessWord_120 : decode b_Be_guessWord 120 = .ok (.lushr, 1) := by decide +kernel
theorem d_Be_guessWord_121 : decode b_Be_guessWord 121 = .ok (.lload 12, 2) := by decide +kernel
theorem d_Be_guessWord_123 : decode b_Be_guessWord 123 = .ok (.lcmp, 1) := by decide +kernel
theorem d_Be_guessWord_124 : decode b_Be_guessWord 124 = .ok (.ifCond .le 10, 3) := by decide +kernel
theorem d_Be_guessWord_127 : decode b_Be_guessWord 127 = .ok (.lload 10, 2) := by decide +kernel
theorem d_Be_guessWord_129 : decode b_Be_guessWord 129 = .ok (.lconst 1, 1) := by decide +kernel
theorem d_Be_guessWord_130 : decode b_Be_guessWord 130 = .ok (.lsub, 1) := by decide +kernel
theorem d_Be_guessWord_131 : decode b_Be_guessWord 131 = .ok (.goto 5, 3) := by decide +kernel
theorem d_Be_guessWord_134 : decode b_Be_guessWord 134 = .ok (.lload 10, 2) := by decide +kernel
theorem d_Be_guessWord_136 : decode b_Be_guessWord 136 = .ok (.lreturn, 1) := by decide +kernel
theorem d_Be_shareOf_0 : decode b_Be_shareOf 0 = .ok (.lload_n 0, 1) := by decide +kernel
theorem d_Be_shareOf_1 : decode b_Be_shareOf 1 = .ok (.iconst 1, 1) := by decide +kernel
theorem d_Be_shareOf_2 : decode b_Be_shareOf 2 = .ok (.lushr, 1) := by decide +kernel
theorem d_Be_shareOf_3 : decode b_Be_shareOf 3 = .ok (.lload_n 2, 1) := by decide +kernel
theorem d_Be_shareOf_4 : decode b_Be_shareOf 4 = .ok (.ldiv, 1) := by decide +kernel
theorem d_Be_shareOf_5 : decode b_Be_shareOf 5 = .ok (.iconst 1, 1) := by decide +kernel
theorem d_Be_shareOf_6 : decode b_Be_shareOf 6 = .ok (.lshl, 1) := by decide +kernel
theorem d_Be_shareOf_7 : decode b_Be_shareOf 7 = .ok (.lstore 4, 2) := by decide +kernel
theorem d_Be_shareOf_9 : decode b_Be_shareOf 9 = .ok (.lload_n 0, 1) := by decide +kernel
theorem d_Be_shareOf_10 : decode b_Be_shareOf 10 = .ok (.lload 4, 2) := by decide +kernel
theorem d_Be_shareOf_12 : decode b_Be_shareOf 12 = .ok (.lload_n 2, 1) := by decide +kernel
theorem d_Be_shareOf_13 : decode b_Be_shareOf 13 = .ok (.lmul, 1) := by decide +kernel
theorem d_Be_shareOf_14 : decode b_Be_shareOf 14 = .ok (.lsub, 1) := by decide +kernel
theorem d_Be_shareOf_15 : decode b_Be_shareOf 15 = .ok (.lload_n 2, 1) := by decide +kernel
theorem d_Be_shareOf_16 : decode b_Be_shareOf 16 = .ok (.lcmp, 1) := by decide +kernel
theorem d_Be_shareOf_17 : decode b_Be_shareOf 17 = .ok (.ifCond .ge 8, 3) := by decide +kernel
theorem d_Be_shareOf_20 : decode b_Be_shareOf 20 = .ok (.lload 4, 2) := by decide +kernel
theorem d_Be_shareOf_22 : decode b_Be_shareOf 22 = .ok (.goto 7, 3) := by decide +kernel
theorem d_Be_shareOf_25 : decode b_Be_shareOf 25 = .ok (.lload 4, 2) := by decide +kernel
theorem d_Be_shareOf_27 : decode b_Be_shareOf 27 = .ok (.lconst 1, 1) := by decide +kernel
theorem d_Be_shareOf_28 : decode b_Be_shareOf 28 = .ok (.ladd, 1) := by decide +kernel
theorem d_Be_shareOf_29 : decode b_Be_shareOf 29 = .ok (.lreturn, 1) := by decide +kernel
theorem d_Be_takeProduct_0 : decode b_Be_takeProduct 0 = .ok (.aload_n 0, 1) := by decide +kernel
theorem d_Be_takeProduct_1 : decode b_Be_takeProduct 1 = .ok (.getfield 11, 3) := by decide +kernel
theorem d_Be_takeProduct_4 : decode b_Be_takeProduct 4 = .ok (.astore 6, 2) := by decide +kernel
theorem d_Be_takeProduct_6 : decode b_Be_takeProduct 6 = .ok (.iload_n 2, 1) := by decide +kernel
theorem d_Be_takeProduct_7 : decode b_Be_takeProduct 7 = .ok (.iload_n 3, 1) := by decide +kernel
theorem d_Be_takeProduct_8 : decode b_Be_takeProduct 8 = .ok (.iadd, 1) := by decide +kernel
theorem d_Be_takeProduct_9 : decode b_Be_takeProduct 9 = .ok (.istore 7, 2) := by decide +kernel
theorem d_Be_takeProduct_11 : decode b_Be_takeProduct 11 = .ok (.iload_n 1, 1) := by decide +kernel
theorem d_Be_takeProduct_12 : decode b_Be_takeProduct 12 = .ok (.istore 8, 2) := by decide +kernel
theorem d_Be_takeProduct_14 : decode b_Be_takeProduct 14 = .ok (.lconst 0, 1) := by decide +kernel
theorem d_Be_takeProduct_15 : decode b_Be_takeProduct 15 = .ok (.lstore 9, 2) := by decide +kernel
theorem d_Be_takeProduct_17 : decode b_Be_takeProduct 17 = .ok (.iload_n 2, 1) := by decide +kernel
theorem d_Be_takeProduct_18 : decode b_Be_takeProduct 18 = .ok (.istore 11, 2) := by decide +kernel
theorem d_Be_takeProduct_20 : decode b_Be_takeProduct 20 = .ok (.iload 11, 2) := by decide +kernel
theorem d_Be_takeProduct_22 : decode b_Be_takeProduct 22 = .ok (.iload 7, 2) := by decide +kernel
theorem d_Be_takeProduct_24 : decode b_Be_takeProduct 24 = .ok (.if_icmp .ge 70, 3) := by decide +kernel
theorem d_Be_takeProduct_27 : decode b_Be_takeProduct 27 = .ok (.lload 9, 2) := by decide +kernel
theorem d_Be_takeProduct_29 : decode b_Be_takeProduct 29 = .ok (.aload 6, 2) := by decide +kernel
theorem d_Be_takeProduct_31 : decode b_Be_takeProduct 31 = .ok (.iload 11, 2) := by decide +kernel
theorem d_Be_takeProduct_33 : decode b_Be_takeProduct 33 = .ok (.iaload, 1) := by decide +kernel
theorem d_Be_takeProduct_34 : decode b_Be_takeProduct 34 = .ok (.i2l, 1) := by decide +kernel
theorem d_Be_takeProduct_35 : decode b_Be_takeProduct 35 = .ok (.ldc2_w 99, 3) := by decide +kernel
theorem d_Be_takeProduct_38 : decode b_Be_takeProduct 38 = .ok (.land, 1) := by decide +kernel
theorem d_Be_takeProduct_39 : decode b_Be_takeProduct 39 = .ok (.lload 4, 2) := by decide +kernel
theorem d_Be_takeProduct_41 : decode b_Be_takeProduct 41 = .ok (.lmul, 1) := by decide +kernel
theorem d_Be_takeProduct_42 : decode b_Be_takeProduct 42 = .ok (.ladd, 1) := by decide +kernel
theorem d_Be_takeProduct_43 : decode b_Be_takeProduct 43 = .ok (.lstore 9, 2) := by decide +kernel
theorem d_Be_takeProduct_45 : decode b_Be_takeProduct 45 = .ok (.aload 6, 2) := by decide +kernel
theorem d_Be_takeProduct_47 : decode b_Be_takeProduct 47 = .ok (.iload 8, 2) := by decide +kernel
theorem d_Be_takeProduct_49 : decode b_Be_takeProduct 49 = .ok (.iaload, 1) := by decide +kernel
theorem d_Be_takeProduct_50 : decode b_Be_takeProduct 50 = .ok (.i2l, 1) := by decide +kernel
theorem d_Be_takeProduct_51 : decode b_Be_takeProduct 51 = .ok (.ldc2_w 99, 3) := by decide +kernel
theorem d_Be_takeProduct_54 : decode b_Be_takeProduct 54 = .ok (.land, 1) := by decide +kernel
theorem d_Be_takeProduct_55 : decode b_Be_takeProduct 55 = .ok (.lload 9, 2) := by decide +kernel
theorem d_Be_takeProduct_57 : decode b_Be_takeProduct 57 = .ok (.ldc2_w 99, 3) := by decide +kernel
theorem d_Be_takeProduct_60 : decode b_Be_takeProduct 60 = .ok (.land, 1) := by decide +kernel
theorem d_Be_takeProduct_61 : decode b_Be_takeProduct 61 = .ok (.lsub, 1) := by decide +kernel
theorem d_Be_takeProduct_62 : decode b_Be_takeProduct 62 = .ok (.lstore 12, 2) := by decide +kernel
theorem d_Be_takeProduct_64 : decode b_Be_takeProduct 64 = .ok (.aload 6, 2) := by decide +kernel
theorem d_Be_takeProduct_66 : decode b_Be_takeProduct 66 = .ok (.iload 8, 2) := by decide +kernel
theorem d_Be_takeProduct_68 : decode b_Be_takeProduct 68 = .ok (.lload 12, 2) := by decide +kernel
theorem d_Be_takeProduct_70 : decode b_Be_takeProduct 70 = .ok (.l2i, 1) := by decide +kernel
theorem d_Be_takeProduct_71 : decode b_Be_takeProduct 71 = .ok (.iastore, 1) := by decide +kernel
theorem d_Be_takeProduct_72 : decode b_Be_takeProduct 72 = .ok (.lload 9, 2) := by decide +kernel
theorem d_Be_takeProduct_74 : decode b_Be_takeProduct 74 = .ok (.bipush 32, 2) := by decide +kernel
theorem d_Be_takeProduct_76 : decode b_Be_takeProduct 76 = .ok (.lushr, 1) := by decide +kernel
theorem d_Be_takeProduct_77 : decode b_Be_takeProduct 77 = .ok (.lload 12, 2) := by decide +kernel
theorem d_Be_takeProduct_79 : decode b_Be_takeProduct 79 = .ok (.bipush 63, 2) := by decide +kernel
theorem d_Be_takeProduct_81 : decode b_Be_takeProduct 81 = .ok (.lushr, 1) := by decide +kernel
theorem d_Be_takeProduct_82 : decode b_Be_takeProduct 82 = .ok (.ladd, 1) := by decide +kernel
theorem d_Be_takeProduct_83 : decode b_Be_takeProduct 83 = .ok (.lstore 9, 2) := by decide +kernel
theorem d_Be_takeProduct_85 : decode b_Be_takeProduct 85 = .ok (.iinc 8 1, 3) := by decide +kernel
theorem d_Be_takeProduct_88 : decode b_Be_takeProduct 88 = .ok (.iinc 11 1, 3) := by decide +kernel
theorem d_Be_takeProduct_91 : decode b_Be_takeProduct 91 = .ok (.goto (-71), 3) := by decide +kernel
theorem d_Be_takeProduct_94 : decode b_Be_takeProduct 94 = .ok (.lload 9, 2) := by decide +kernel
theorem d_Be_takeProduct_96 : decode b_Be_takeProduct 96 = .ok (.lreturn, 1) := by decide +kernel
theorem d_Be_divideByHead_0 : decode b_Be_divideByHead 0 = .ok (.iload 4, 2) := by decide +kernel
theorem d_Be_divideByHead_2 : decode b_Be_divideByHead 2 = .ok (.iload 5, 2) := by decide +kernel
theorem d_Be_divideByHead_4 : decode b_Be_divideByHead 4 = .ok (.isub, 1) := by decide +kernel
theorem d_Be_divideByHead_5 : decode b_Be_divideByHead 5 = .ok (.istore 8, 2) := by decide +kernel
theorem d_Be_divideByHead_7 : decode b_Be_divideByHead 7 = .ok (.aload_n 0, 1) := by decide +kernel
theorem d_Be_divideByHead_8 : decode b_Be_divideByHead 8 = .ok (.iload_n 1, 1) := by decide +kernel
theorem d_Be_divideByHead_9 : decode b_Be_divideByHead 9 = .ok (.iload_n 2, 1) := by decide +kernel
theorem d_Be_divideByHead_10 : decode b_Be_divideByHead 10 = .ok (.iload 8, 2) := by decide +kernel
theorem d_Be_divideByHead_12 : decode b_Be_divideByHead 12 = .ok (.iadd, 1) := by decide +kernel
theorem d_Be_divideByHead_13 : decode b_Be_divideByHead 13 = .ok (.iload_n 3, 1) := by decide +kernel
theorem d_Be_divideByHead_14 : decode b_Be_divideByHead 14 = .ok (.iload 8, 2) := by decide +kernel
theorem d_Be_divideByHead_16 : decode b_Be_divideByHead 16 = .ok (.iadd, 1) := by decide +kernel
theorem d_Be_divideByHead_17 : decode b_Be_divideByHead 17 = .ok (.iload 5, 2) := by decide +kernel
theorem d_Be_divideByHead_19 : decode b_Be_divideByHead 19 = .ok (.iload 5, 2) := by decide +kernel
theorem d_Be_divideByHead_21 : decode b_Be_divideByHead 21 = .ok (.iload 6, 2) := by decide +kernel
theorem d_Be_divideByHead_23 : decode b_Be_divideByHead 23 = .ok (.iload 7, 2) := by decide +kernel
theorem d_Be_divideByHead_25 : decode b_Be_divideByHead 25 = .ok (.invokevirtual 68, 3) := by decide +kernel
theorem d_Be_divideByHead_28 : decode b_Be_divideByHead 28 = .ok (.istore 9, 2) := by decide +kernel
theorem d_Be_divideByHead_30 : decode b_Be_divideByHead 30 = .ok (.aload_n 0, 1) := by decide +kernel
theorem d_Be_divideByHead_31 : decode b_Be_divideByHead 31 = .ok (.iload 6, 2) := by decide +kernel
theorem d_Be_divideByHead_33 : decode b_Be_divideByHead 33 = .ok (.iload_n 1, 1) := by decide +kernel
theorem d_Be_divideByHead_34 : decode b_Be_divideByHead 34 = .ok (.iload 5, 2) := by decide +kernel
theorem d_Be_divideByHead_36 : decode b_Be_divideByHead 36 = .ok (.iload_n 3, 1) := by decide +kernel
theorem d_Be_divideByHead_37 : decode b_Be_divideByHead 37 = .ok (.iload 8, 2) := by decide +kernel
theorem d_Be_divideByHead_39 : decode b_Be_divideByHead 39 = .ok (.iload 6, 2) := by decide +kernel
theorem d_Be_divideByHead_41 : decode b_Be_divideByHead 41 = .ok (.iload 4, 2) := by decide +kernel
theorem d_Be_divideByHead_43 : decode b_Be_divideByHead 43 = .ok (.iadd, 1) := by decide +kernel
theorem d_Be_divideByHead_44 : decode b_Be_divideByHead 44 = .ok (.bipush 20, 2) := by decide +kernel
theorem d_Be_divideByHead_46 : decode b_Be_divideByHead 46 = .ok (.invokevirtual 30, 3) := by decide +kernel
theorem d_Be_divideByHead_49 : decode b_Be_divideByHead 49 = .ok (.aload_n 0, 1) := by decide +kernel
theorem d_Be_divideByHead_50 : decode b_Be_divideByHead 50 = .ok (.iload_n 2, 1) := by decide +kernel
theorem d_Be_divideByHead_51 : decode b_Be_divideByHead 51 = .ok (.iload 4, 2) := by decide +kernel
theorem d_Be_divideByHead_53 : decode b_Be_divideByHead 53 = .ok (.iload 6, 2) := by decide +kernel
theorem d_Be_divideByHead_55 : decode b_Be_divideByHead 55 = .ok (.iload 4, 2) := by decide +kernel
theorem d_Be_divideByHead_57 : decode b_Be_divideByHead 57 = .ok (.invokevirtual 113, 3) := by decide +kernel
theorem d_Be_divideByHead_60 : decode b_Be_divideByHead 60 = .ok (.istore 10, 2) := by decide +kernel
theorem d_Be_divideByHead_62 : decode b_Be_divideByHead 62 = .ok (.iload 9, 2) := by decide +kernel
theorem d_Be_divideByHead_64 : decode b_Be_divideByHead 64 = .ok (.ifCond .eq 21, 3) := by decide +kernel
theorem d_Be_divideByHead_67 : decode b_Be_divideByHead 67 = .ok (.iload 10, 2) := by decide +kernel
theorem d_Be_divideByHead_69 : decode b_Be_divideByHead 69 = .ok (.aload_n 0, 1) := by decide +kernel
theorem d_Be_divideByHead_70 : decode b_Be_divideByHead 70 = .ok (.iload_n 2, 1) := by decide +kernel
theorem d_Be_divideByHead_71 : decode b_Be_divideByHead 71 = .ok (.iload 5, 2) := by decide +kernel
theorem d_Be_divideByHead_73 : decode b_Be_divideByHead 73 = .ok (.iadd, 1) := by decide +kernel
theorem d_Be_divideByHead_74 : decode b_Be_divideByHead 74 = .ok (.iload 8, 2) := by decide +kernel
theorem d_Be_divideByHead_76 : decode b_Be_divideByHead 76 = .ok (.iload_n 3, 1) := by decide +kernel
theorem d_Be_divideByHead_77 : decode b_Be_divideByHead 77 = .ok (.iload 8, 2) := by decide +kernel
theorem d_Be_divideByHead_79 : decode b_Be_divideByHead 79 = .ok (.invokevirtual 113, 3) := by decide +kernel
theorem d_Be_divideByHead_82 : decode b_Be_divideByHead 82 = .ok (.iadd, 1) := by decide +kernel
theorem d_Be_divideByHead_83 : decode b_Be_divideByHead 83 = .ok (.istore 10, 2) := by decide +kernel
theorem d_Be_divideByHead_85 : decode b_Be_divideByHead 85 = .ok (.iconst 0, 1) := by decide +kernel
theorem d_Be_divideByHead_86 : decode b_Be_divideByHead 86 = .ok (.istore 11, 2) := by decide +kernel
theorem d_Be_divideByHead_88 : decode b_Be_divideByHead 88 = .ok (.iload 11, 2) := by decide +kernel
theorem d_Be_divideByHead_90 : decode b_Be_divideByHead 90 = .ok (.iconst 4, 1) := by decide +kernel
theorem d_Be_divideByHead_91 : decode b_Be_divideByHead 91 = .ok (.if_icmp .ge 41, 3) := by decide +kernel
theorem d_Be_divideByHead_94 : decode b_Be_divideByHead 94 = .ok (.iload 10, 2) := by decide +kernel
theorem d_Be_divideByHead_96 : decode b_Be_divideByHead 96 = .ok (.ifCond .le 36, 3) := by decide +kernel
theorem d_Be_divideByHead_99 : decode b_Be_divideByHead 99 = .ok (.iload 9, 2) := by decide +kernel
theorem d_Be_divideByHead_101 : decode b_Be_divideByHead 101 = .ok (.aload_n 0, 1) := by decide +kernel
theorem d_Be_divideByHead_102 : decode b_Be_divideByHead 102 = .ok (.iload_n 1, 1) := by decide +kernel
theorem d_Be_divideByHead_103 : decode b_Be_divideByHead 103 = .ok (.iload 5, 2) := by decide +kernel
theorem d_Be_divideByHead_105 : decode b_Be_divideByHead 105 = .ok (.invokevirtual 123, 3) := by decide +kernel
theorem d_Be_divideByHead_108 : decode b_Be_divideByHead 108 = .ok (.isub, 1) := by decide +kernel
theorem d_Be_divideByHead_109 : decode b_Be_divideByHead 109 = .ok (.istore 9, 2) := by decide +kernel
theorem d_Be_divideByHead_111 : decode b_Be_divideByHead 111 = .ok (.iload 10, 2) := by decide +kernel
theorem d_Be_divideByHead_113 : decode b_Be_divideByHead 113 = .ok (.aload_n 0, 1) := by decide +kernel
theorem d_Be_divideByHead_114 : decode b_Be_divideByHead 114 = .ok (.iload_n 2, 1) := by decide +kernel
theorem d_Be_divideByHead_115 : decode b_Be_divideByHead 115 = .ok (.iload 4, 2) := by decide +kernel
theorem d_Be_divideByHead_117 : decode b_Be_divideByHead 117 = .ok (.iload_n 3, 1) := by decide +kernel
theorem d_Be_divideByHead_118 : decode b_Be_divideByHead 118 = .ok (.iload 4, 2) := by decide +kernel
theorem d_Be_divideByHead_120 : decode b_Be_divideByHead 120 = .ok (.invokevirtual 105, 3) := by decide +kernel
theorem d_Be_divideByHead_123 : decode b_Be_divideByHead 123 = .ok (.isub, 1) := by decide +kernel
theorem d_Be_divideByHead_124 : decode b_Be_divideByHead 124 = .ok (.istore 10, 2) := by decide +kernel
theorem d_Be_divideByHead_126 : decode b_Be_divideByHead 126 = .ok (.iinc 11 1, 3) := by decide +kernel
theorem d_Be_divideByHead_129 : decode b_Be_divideByHead 129 = .ok (.goto (-41), 3) := by decide +kernel
theorem d_Be_divideByHead_132 : decode b_Be_divideByHead 132 = .ok (.iload 9, 2) := by decide +kernel
theorem d_Be_divideByHead_134 : decode b_Be_divideByHead 134 = .ok (.ireturn, 1) := by decide +kernel
theorem d_Be_takeOne_0 : decode b_Be_takeOne 0 = .ok (.iload_n 1, 1) := by decide +kernel
theorem d_Be_takeOne_1 : decode b_Be_takeOne 1 = .ok (.istore_n 3, 1) := by decide +kernel
theorem d_Be_takeOne_2 : decode b_Be_takeOne 2 = .ok (.iload_n 3, 1) := by decide +kernel
theorem d_Be_takeOne_3 : decode b_Be_takeOne 3 = .ok (.iload_n 1, 1) := by decide +kernel
theorem d_Be_takeOne_4 : decode b_Be_takeOne 4 = .ok (.iload_n 2, 1) := by decide +kernel
theorem d_Be_takeOne_5 : decode b_Be_takeOne 5 = .ok (.iadd, 1) := by decide +kernel
theorem d_Be_takeOne_6 : decode b_Be_takeOne 6 = .ok (.if_icmp .ge 31, 3) := by decide +kernel
theorem d_Be_takeOne_9 : decode b_Be_takeOne 9 = .ok (.aload_n 0, 1) := by decide +kernel
theorem d_Be_takeOne_10 : decode b_Be_takeOne 10 = .ok (.getfield 11, 3) := by decide +kernel
theorem d_Be_takeOne_13 : decode b_Be_takeOne 13 = .ok (.iload_n 3, 1) := by decide +kernel
theorem d_Be_takeOne_14 : decode b_Be_takeOne 14 = .ok (.dup2, 1) := by decide +kernel
theorem d_Be_takeOne_15 : decode b_Be_takeOne 15 = .ok (.iaload, 1) := by decide +kernel
theorem d_Be_takeOne_16 : decode b_Be_takeOne 16 = .ok (.iconst 1, 1) := by decide +kernel
theorem d_Be_takeOne_17 : decode b_Be_takeOne 17 = .ok (.isub, 1) := by decide +kernel
theorem d_Be_takeOne_18 : decode b_Be_takeOne 18 = .ok (.iastore, 1) := by decide +kernel
theorem d_Be_takeOne_19 : decode b_Be_takeOne 19 = .ok (.aload_n 0, 1) := by decide +kernel
theorem d_Be_takeOne_20 : decode b_Be_takeOne 20 = .ok (.getfield 11, 3) := by decide +kernel
theorem d_Be_takeOne_23 : decode b_Be_takeOne 23 = .ok (.iload_n 3, 1) := by decide +kernel
theorem d_Be_takeOne_24 : decode b_Be_takeOne 24 = .ok (.iaload, 1) := by decide +kernel
theorem d_Be_takeOne_25 : decode b_Be_takeOne 25 = .ok (.iconst (-1), 1) := by decide +kernel
theorem d_Be_takeOne_26 : decode b_Be_takeOne 26 = .ok (.if_icmp .eq 5, 3) := by decide +kernel
theorem d_Be_takeOne_29 : decode b_Be_takeOne 29 = .ok (.iconst 0, 1) := by decide +kernel
theorem d_Be_takeOne_30 : decode b_Be_takeOne 30 = .ok (.ireturn, 1) := by decide +kernel
theorem d_Be_takeOne_31 : decode b_Be_takeOne 31 = .ok (.iinc 3 1, 3) := by decide +kernel
theorem d_Be_takeOne_34 : decode b_Be_takeOne 34 = .ok (.goto (-32), 3) := by decide +kernel
theorem d_Be_takeOne_37 : decode b_Be_takeOne 37 = .ok (.iconst 1, 1) := by decide +kernel
theorem d_Be_takeOne_38 : decode b_Be_takeOne 38 = .ok (.ireturn, 1) := by decide +kernel
theorem d_Be_putPower_0 : decode b_Be_putPower 0 = .ok (.iload_n 3, 1) := by decide +kernel
theorem d_Be_putPower_1 : decode b_Be_putPower 1 = .ok (.ifCond .ne 9, 3) := by decide +kernel
theorem d_Be_putPower_4 : decode b_Be_putPower 4 = .ok (.aload_n 1, 1) := by decide +kernel
theorem d_Be_putPower_5 : decode b_Be_putPower 5 = .ok (.lconst 1, 1) := by decide +kernel
theorem d_Be_putPower_6 : decode b_Be_putPower 6 = .ok (.invokevirtual 38, 3) := by decide +kernel
theorem d_Be_putPower_9 : decode b_Be_putPower 9 = .ok (.return_, 1) := by decide +kernel
theorem d_Be_putPower_10 : decode b_Be_putPower 10 = .ok (.aload_n 1, 1) := by decide +kernel
theorem d_Be_putPower_11 : decode b_Be_putPower 11 = .ok (.aload_n 2, 1) := by decide +kernel
theorem d_Be_putPower_12 : decode b_Be_putPower 12 = .ok (.invokevirtual 42, 3) := by decide +kernel
theorem d_Be_putPower_15 : decode b_Be_putPower 15 = .ok (.iload_n 3, 1) := by decide +kernel
theorem d_Be_putPower_16 : decode b_Be_putPower 16 = .ok (.invokestatic 46, 3) := by decide +kernel
theorem d_Be_putPower_19 : decode b_Be_putPower 19 = .ok (.iconst 2, 1) := by decide +kernel
theorem d_Be_putPower_20 : decode b_Be_putPower 20 = .ok (.isub, 1) := by decide +kernel
theorem d_Be_putPower_21 : decode b_Be_putPower 21 = .ok (.istore 4, 2) := by decide +kernel
theorem d_Be_putPower_23 : decode b_Be_putPower 23 = .ok (.iload 4, 2) := by decide +kernel
theorem d_Be_putPower_25 : decode b_Be_putPower 25 = .ok (.ifCond .lt 33, 3) := by decide +kernel
theorem d_Be_putPower_28 : decode b_Be_putPower 28 = .ok (.aload_n 0, 1) := by decide +kernel
theorem d_Be_putPower_29 : decode b_Be_putPower 29 = .ok (.aload_n 1, 1) := by decide +kernel
theorem d_Be_putPower_30 : decode b_Be_putPower 30 = .ok (.aload_n 1, 1) := by decide +kernel
theorem d_Be_putPower_31 : decode b_Be_putPower 31 = .ok (.aload_n 1, 1) := by decide +kernel
theorem d_Be_putPower_32 : decode b_Be_putPower 32 = .ok (.invokevirtual 50, 3) := by decide +kernel
theorem d_Be_putPower_35 : decode b_Be_putPower 35 = .ok (.iload_n 3, 1) := by decide +kernel
theorem d_Be_putPower_36 : decode b_Be_putPower 36 = .ok (.iload 4, 2) := by decide +kernel
theorem d_Be_putPower_38 : decode b_Be_putPower 38 = .ok (.ishr, 1) := by decide +kernel
theorem d_Be_putPower_39 : decode b_Be_putPower 39 = .ok (.iconst 1, 1) := by decide +kernel
theorem d_Be_putPower_40 : decode b_Be_putPower 40 = .ok (.iand, 1) := by decide +kernel
theorem d_Be_putPower_41 : decode b_Be_putPower 41 = .ok (.iconst 1, 1) := by decide +kernel
theorem d_Be_putPower_42 : decode b_Be_putPower 42 = .ok (.if_icmp .ne 10, 3) := by decide +kernel
theorem d_Be_putPower_45 : decode b_Be_putPower 45 = .ok (.aload_n 0, 1) := by decide +kernel
theorem d_Be_putPower_46 : decode b_Be_putPower 46 = .ok (.aload_n 1, 1) := by decide +kernel
theorem d_Be_putPower_47 : decode b_Be_putPower 47 = .ok (.aload_n 1, 1) := by decide +kernel
theorem d_Be_putPower_48 : decode b_Be_putPower 48 = .ok (.aload_n 2, 1) := by decide +kernel
theorem d_Be_putPower_49 : decode b_Be_putPower 49 = .ok (.invokevirtual 50, 3) := by decide +kernel
theorem d_Be_putPower_52 : decode b_Be_putPower 52 = .ok (.iinc 4 (-1), 3) := by decide +kernel
theorem d_Be_putPower_55 : decode b_Be_putPower 55 = .ok (.goto (-32), 3) := by decide +kernel
theorem d_Be_putPower_58 : decode b_Be_putPower 58 = .ok (.return_, 1) := by decide +kernel
end
section
/-! DECODE ROWS of Ja (by program) -/
theorem d_Ja_fill_0 : decode b_Ja_fill 0 = .ok (.aload_n 0, 1) := by decide +kernel
theorem d_Ja_fill_1 : decode b_Ja_fill 1 = .ok (.arraylength, 1) := by decide +kernel
theorem d_Ja_fill_2 : decode b_Ja_fill 2 = .ok (.iload_n 1, 1) := by decide +kernel
theorem d_Ja_fill_3 : decode b_Ja_fill 3 = .ok (.iload_n 2, 1) := by decide +kernel
theorem d_Ja_fill_4 : decode b_Ja_fill 4 = .ok (.invokestatic 13, 3) := by decide +kernel
theorem d_Ja_fill_7 : decode b_Ja_fill 7 = .ok (.iload_n 1, 1) := by decide +kernel
theorem d_Ja_fill_8 : decode b_Ja_fill 8 = .ok (.istore 4, 2) := by decide +kernel
theorem d_Ja_fill_10 : decode b_Ja_fill 10 = .ok (.iload 4, 2) := by decide +kernel
theorem d_Ja_fill_12 : decode b_Ja_fill 12 = .ok (.iload_n 2, 1) := by decide +kernel
theorem d_Ja_fill_13 : decode b_Ja_fill 13 = .ok (.if_icmp .ge 14, 3) := by decide +kernel
theorem d_Ja_fill_16 : decode b_Ja_fill 16 = .ok (.aload_n 0, 1) := by decide +kernel
theorem d_Ja_fill_17 : decode b_Ja_fill 17 = .ok (.iload 4, 2) := by decide +kernel
theorem d_Ja_fill_19 : decode b_Ja_fill 19 = .ok (.iload_n 3, 1) := by decide +kernel
theorem d_Ja_fill_20 : decode b_Ja_fill 20 = .ok (.iastore, 1) := by decide +kernel
theorem d_Ja_fill_21 : decode b_Ja_fill 21 = .ok (.iinc 4 1, 3) := by decide +kernel
theorem d_Ja_fill_24 : decode b_Ja_fill 24 = .ok (.goto (-14), 3) := by decide +kernel
theorem d_Ja_fill_27 : decode b_Ja_fill 27 = .ok (.return_, 1) := by decide +kernel
theorem d_Ja_rangeCheck_0 : decode b_Ja_rangeCheck 0 = .ok (.iload_n 1, 1) := by decide +kernel
theorem d_Ja_rangeCheck_1 : decode b_Ja_rangeCheck 1 = .ok (.iload_n 2, 1) := by decide +kernel
theorem d_Ja_rangeCheck_2 : decode b_Ja_rangeCheck 2 = .ok (.if_icmp .le 44, 3) := by decide +kernel
theorem d_Ja_rangeCheck_5 : decode b_Ja_rangeCheck 5 = .ok (.new 43, 3) := by decide +kernel
theorem d_Ja_rangeCheck_8 : decode b_Ja_rangeCheck 8 = .ok (.dup, 1) := by decide +kernel
theorem d_Ja_rangeCheck_9 : decode b_Ja_rangeCheck 9 = .ok (.new 45, 3) := by decide +kernel
theorem d_Ja_rangeCheck_12 : decode b_Ja_rangeCheck 12 = .ok (.dup, 1) := by decide +kernel
theorem d_Ja_rangeCheck_13 : decode b_Ja_rangeCheck 13 = .ok (.invokespecial 47, 3) := by decide +kernel
theorem d_Ja_rangeCheck_16 : decode b_Ja_rangeCheck 16 = .ok (.ldc 48, 2) := by decide +kernel
theorem d_Ja_rangeCheck_18 : decode b_Ja_rangeCheck 18 = .ok (.invokevirtual 50, 3) := by decide +kernel
theorem d_Ja_rangeCheck_21 : decode b_Ja_rangeCheck 21 = .ok (.iload_n 1, 1) := by decide +kernel
theorem d_Ja_rangeCheck_22 : decode b_Ja_rangeCheck 22 = .ok (.invokevirtual 54, 3) := by decide +kernel
theorem d_Ja_rangeCheck_25 : decode b_Ja_rangeCheck 25 = .ok (.ldc 57, 2) := by decide +kernel
theorem d_Ja_rangeCheck_27 : decode b_Ja_rangeCheck 27 = .ok (.invokevirtual 50, 3) := by decide +kernel
theorem d_Ja_rangeCheck_30 : decode b_Ja_rangeCheck 30 = .ok (.iload_n 2, 1) := by decide +kernel
theorem d_Ja_rangeCheck_31 : decode b_Ja_rangeCheck 31 = .ok (.invokevirtual 54, 3) := by decide +kernel
theorem d_Ja_rangeCheck_34 : decode b_Ja_rangeCheck 34 = .ok (.ldc 59, 2) := by decide +kernel
theorem d_Ja_rangeCheck_36 : decode b_Ja_rangeCheck 36 = .ok (.invokevirtual 50, 3) := by decide +kernel
theorem d_Ja_rangeCheck_39 : decode b_Ja_rangeCheck 39 = .ok (.invokevirtual 61, 3) := by decide +kernel
theorem d_Ja_rangeCheck_42 : decode b_Ja_rangeCheck 42 = .ok (.invokespecial 65, 3) := by decide +kernel
theorem d_Ja_rangeCheck_45 : decode b_Ja_rangeCheck 45 = .ok (.athrow, 1) := by decide +kernel
theorem d_Ja_rangeCheck_46 : decode b_Ja_rangeCheck 46 = .ok (.iload_n 1, 1) := by decide +kernel
theorem d_Ja_rangeCheck_47 : decode b_Ja_rangeCheck 47 = .ok (.ifCond .ge 12, 3) := by decide +kernel
theorem d_Ja_rangeCheck_50 : decode b_Ja_rangeCheck 50 = .ok (.new 68, 3) := by decide +kernel
theorem d_Ja_rangeCheck_53 : decode b_Ja_rangeCheck 53 = .ok (.dup, 1) := by decide +kernel
theorem d_Ja_rangeCheck_54 : decode b_Ja_rangeCheck 54 = .ok (.iload_n 1, 1) := by decide +kernel
theorem d_Ja_rangeCheck_55 : decode b_Ja_rangeCheck 55 = .ok (.invokespecial 70, 3) := by decide +kernel
theorem d_Ja_rangeCheck_58 : decode b_Ja_rangeCheck 58 = .ok (.athrow, 1) := by decide +kernel
theorem d_Ja_rangeCheck_59 : decode b_Ja_rangeCheck 59 = .ok (.iload_n 2, 1) := by decide +kernel
theorem d_Ja_rangeCheck_60 : decode b_Ja_rangeCheck 60 = .ok (.iload_n 0, 1) := by decide +kernel
theorem d_Ja_rangeCheck_61 : decode b_Ja_rangeCheck 61 = .ok (.if_icmp .le 12, 3) := by decide +kernel
theorem d_Ja_rangeCheck_64 : decode b_Ja_rangeCheck 64 = .ok (.new 68, 3) := by decide +kernel
theorem d_Ja_rangeCheck_67 : decode b_Ja_rangeCheck 67 = .ok (.dup, 1) := by decide +kernel
theorem d_Ja_rangeCheck_68 : decode b_Ja_rangeCheck 68 = .ok (.iload_n 2, 1) := by decide +kernel
theorem d_Ja_rangeCheck_69 : decode b_Ja_rangeCheck 69 = .ok (.invokespecial 70, 3) := by decide +kernel
theorem d_Ja_rangeCheck_72 : decode b_Ja_rangeCheck 72 = .ok (.athrow, 1) := by decide +kernel
theorem d_Ja_rangeCheck_73 : decode b_Ja_rangeCheck 73 = .ok (.return_, 1) := by decide +kernel
end
section
/-! DECODE ROWS of Ji (by program) -/
theorem d_Ji_bitCount_0 : decode b_Ji_bitCount 0 = .ok (.iload_n 0, 1) := by decide +kernel
theorem d_Ji_bitCount_1 : decode b_Ji_bitCount 1 = .ok (.iload_n 0, 1) := by decide +kernel
theorem d_Ji_bitCount_2 : decode b_Ji_bitCount 2 = .ok (.iconst 1, 1) := by decide +kernel
theorem d_Ji_bitCount_3 : decode b_Ji_bitCount 3 = .ok (.iushr, 1) := by decide +kernel
theorem d_Ji_bitCount_4 : decode b_Ji_bitCount 4 = .ok (.ldc_w 265, 3) := by decide +kernel
theorem d_Ji_bitCount_7 : decode b_Ji_bitCount 7 = .ok (.iand, 1) := by decide +kernel
theorem d_Ji_bitCount_8 : decode b_Ji_bitCount 8 = .ok (.isub, 1) := by decide +kernel
theorem d_Ji_bitCount_9 : decode b_Ji_bitCount 9 = .ok (.istore_n 0, 1) := by decide +kernel
theorem d_Ji_bitCount_10 : decode b_Ji_bitCount 10 = .ok (.iload_n 0, 1) := by decide +kernel
theorem d_Ji_bitCount_11 : decode b_Ji_bitCount 11 = .ok (.ldc_w 266, 3) := by decide +kernel
theorem d_Ji_bitCount_14 : decode b_Ji_bitCount 14 = .ok (.iand, 1) := by decide +kernel
theorem d_Ji_bitCount_15 : decode b_Ji_bitCount 15 = .ok (.iload_n 0, 1) := by decide +kernel
theorem d_Ji_bitCount_16 : decode b_Ji_bitCount 16 = .ok (.iconst 2, 1) := by decide +kernel
theorem d_Ji_bitCount_17 : decode b_Ji_bitCount 17 = .ok (.iushr, 1) := by decide +kernel
theorem d_Ji_bitCount_18 : decode b_Ji_bitCount 18 = .ok (.ldc_w 266, 3) := by decide +kernel
theorem d_Ji_bitCount_21 : decode b_Ji_bitCount 21 = .ok (.iand, 1) := by decide +kernel
theorem d_Ji_bitCount_22 : decode b_Ji_bitCount 22 = .ok (.iadd, 1) := by decide +kernel
theorem d_Ji_bitCount_23 : decode b_Ji_bitCount 23 = .ok (.istore_n 0, 1) := by decide +kernel
theorem d_Ji_bitCount_24 : decode b_Ji_bitCount 24 = .ok (.iload_n 0, 1) := by decide +kernel
theorem d_Ji_bitCount_25 : decode b_Ji_bitCount 25 = .ok (.iload_n 0, 1) := by decide +kernel
theorem d_Ji_bitCount_26 : decode b_Ji_bitCount 26 = .ok (.iconst 4, 1) := by decide +kernel
theorem d_Ji_bitCount_27 : decode b_Ji_bitCount 27 = .ok (.iushr, 1) := by decide +kernel
theorem d_Ji_bitCount_28 : decode b_Ji_bitCount 28 = .ok (.iadd, 1) := by decide +kernel
theorem d_Ji_bitCount_29 : decode b_Ji_bitCount 29 = .ok (.ldc_w 267, 3) := by decide +kernel
theorem d_Ji_bitCount_32 : decode b_Ji_bitCount 32 = .ok (.iand, 1) := by decide +kernel
theorem d_Ji_bitCount_33 : decode b_Ji_bitCount 33 = .ok (.istore_n 0, 1) := by decide +kernel
theorem d_Ji_bitCount_34 : decode b_Ji_bitCount 34 = .ok (.iload_n 0, 1) := by decide +kernel
theorem d_Ji_bitCount_35 : decode b_Ji_bitCount 35 = .ok (.iload_n 0, 1) := by decide +kernel
theorem d_Ji_bitCount_36 : decode b_Ji_bitCount 36 = .ok (.bipush 8, 2) := by decide +kernel
theorem d_Ji_bitCount_38 : decode b_Ji_bitCount 38 = .ok (.iushr, 1) := by decide +kernel
theorem d_Ji_bitCount_39 : decode b_Ji_bitCount 39 = .ok (.iadd, 1) := by decide +kernel
theorem d_Ji_bitCount_40 : decode b_Ji_bitCount 40 = .ok (.istore_n 0, 1) := by decide +kernel
theorem d_Ji_bitCount_41 : decode b_Ji_bitCount 41 = .ok (.iload_n 0, 1) := by decide +kernel
theorem d_Ji_bitCount_42 : decode b_Ji_bitCount 42 = .ok (.iload_n 0, 1) := by decide +kernel
theorem d_Ji_bitCount_43 : decode b_Ji_bitCount 43 = .ok (.bipush 16, 2) := by decide +kernel
theorem d_Ji_bitCount_45 : decode b_Ji_bitCount 45 = .ok (.iushr, 1) := by decide +kernel
theorem d_Ji_bitCount_46 : decode b_Ji_bitCount 46 = .ok (.iadd, 1) := by decide +kernel
theorem d_Ji_bitCount_47 : decode b_Ji_bitCount 47 = .ok (.istore_n 0, 1) := by decide +kernel
theorem d_Ji_bitCount_48 : decode b_Ji_bitCount 48 = .ok (.iload_n 0, 1) := by decide +kernel
theorem d_Ji_bitCount_49 : decode b_Ji_bitCount 49 = .ok (.bipush 63, 2) := by decide +kernel
theorem d_Ji_bitCount_51 : decode b_Ji_bitCount 51 = .ok (.iand, 1) := by decide +kernel
theorem d_Ji_bitCount_52 : decode b_Ji_bitCount 52 = .ok (.ireturn, 1) := by decide +kernel
end
section
/-! DECODE ROWS of Lw (by program) -/
theorem d_Lw_init_0 : decode b_Lw_init 0 = .ok (.aload_n 0, 1) := by decide +kernel
theorem d_Lw_init_1 : decode b_Lw_init 1 = .ok (.invokespecial 1, 3) := by decide +kernel
theorem d_Lw_init_4 : decode b_Lw_init 4 = .ok (.aload_n 0, 1) := by decide +kernel
theorem d_Lw_init_5 : decode b_Lw_init 5 = .ok (.bipush 10, 2) := by decide +kernel
theorem d_Lw_init_7 : decode b_Lw_init 7 = .ok (.anewarray 9, 3) := by decide +kernel
theorem d_Lw_init_10 : decode b_Lw_init 10 = .ok (.putfield 11, 3) := by decide +kernel
theorem d_Lw_init_13 : decode b_Lw_init 13 = .ok (.aload_n 0, 1) := by decide +kernel
theorem d_Lw_init_14 : decode b_Lw_init 14 = .ok (.new 9, 3) := by decide +kernel
theorem d_Lw_init_17 : decode b_Lw_init 17 = .ok (.dup, 1) := by decide +kernel
theorem d_Lw_init_18 : decode b_Lw_init 18 = .ok (.invokespecial 15, 3) := by decide +kernel
theorem d_Lw_init_21 : decode b_Lw_init 21 = .ok (.putfield 16, 3) := by decide +kernel
theorem d_Lw_init_24 : decode b_Lw_init 24 = .ok (.aload_n 0, 1) := by decide +kernel
theorem d_Lw_init_25 : decode b_Lw_init 25 = .ok (.new 20, 3) := by decide +kernel
theorem d_Lw_init_28 : decode b_Lw_init 28 = .ok (.dup, 1) := by decide +kernel
theorem d_Lw_init_29 : decode b_Lw_init 29 = .ok (.invokespecial 22, 3) := by decide +kernel
theorem d_Lw_init_32 : decode b_Lw_init 32 = .ok (.putfield 23, 3) := by decide +kernel
theorem d_Lw_init_35 : decode b_Lw_init 35 = .ok (.aload_n 0, 1) := by decide +kernel
theorem d_Lw_init_36 : decode b_Lw_init 36 = .ok (.new 27, 3) := by decide +kernel
theorem d_Lw_init_39 : decode b_Lw_init 39 = .ok (.dup, 1) := by decide +kernel
theorem d_Lw_init_40 : decode b_Lw_init 40 = .ok (.invokespecial 29, 3) := by decide +kernel
theorem d_Lw_init_43 : decode b_Lw_init 43 = .ok (.putfield 30, 3) := by decide +kernel
theorem d_Lw_init_46 : decode b_Lw_init 46 = .ok (.aload_n 0, 1) := by decide +kernel
theorem d_Lw_init_47 : decode b_Lw_init 47 = .ok (.sipush 4800, 3) := by decide +kernel
theorem d_Lw_init_50 : decode b_Lw_init 50 = .ok (.newarray .int, 2) := by decide +kernel
theorem d_Lw_init_52 : decode b_Lw_init 52 = .ok (.putfield 34, 3) := by decide +kernel
theorem d_Lw_init_55 : decode b_Lw_init 55 = .ok (.aload_n 0, 1) := by decide +kernel
theorem d_Lw_init_56 : decode b_Lw_init 56 = .ok (.sipush 4096, 3) := by decide +kernel
theorem d_Lw_init_59 : decode b_Lw_init 59 = .ok (.newarray .byte, 2) := by decide +kernel
theorem d_Lw_init_61 : decode b_Lw_init 61 = .ok (.putfield 38, 3) := by decide +kernel
theorem d_Lw_init_64 : decode b_Lw_init 64 = .ok (.aload_n 0, 1) := by decide +kernel
theorem d_Lw_init_65 : decode b_Lw_init 65 = .ok (.sipush 20000, 3) := by decide +kernel
theorem d_Lw_init_68 : decode b_Lw_init 68 = .ok (.newarray .byte, 2) := by decide +kernel
theorem d_Lw_init_70 : decode b_Lw_init 70 = .ok (.putfield 42, 3) := by decide +kernel
theorem d_Lw_init_73 : decode b_Lw_init 73 = .ok (.aload_n 0, 1) := by decide +kernel
theorem d_Lw_init_74 : decode b_Lw_init 74 = .ok (.iconst 0, 1) := by decide +kernel
theorem d_Lw_init_75 : decode b_Lw_init 75 = .ok (.putfield 45, 3) := by decide +kernel
theorem d_Lw_init_78 : decode b_Lw_init 78 = .ok (.aload_n 0, 1) := by decide +kernel
theorem d_Lw_init_79 : decode b_Lw_init 79 = .ok (.iconst 0, 1) := by decide +kernel
theorem d_Lw_init_80 : decode b_Lw_init 80 = .ok (.putfield 49, 3) := by decide +kernel
theorem d_Lw_init_83 : decode b_Lw_init 83 = .ok (.iconst 0, 1) := by decide +kernel
theorem d_Lw_init_84 : decode b_Lw_init 84 = .ok (.istore_n 1, 1) := by decide +kernel
theorem d_Lw_init_85 : decode b_Lw_init 85 = .ok (.iload_n 1, 1) := by decide +kernel
theorem d_Lw_init_86 : decode b_Lw_init 86 = .ok (.bipush 10, 2) := by decide +kernel
theorem d_Lw_init_88 : decode b_Lw_init 88 = .ok (.if_icmp .ge 22, 3) := by decide +kernel
theorem d_Lw_init_91 : decode b_Lw_init 91 = .ok (.aload_n 0, 1) := by decide +kernel
theorem d_Lw_init_92 : decode b_Lw_init 92 = .ok (.getfield 11, 3) := by decide +kernel
theorem d_Lw_init_95 : decode b_Lw_init 95 = .ok (.iload_n 1, 1) := by decide +kernel
theorem d_Lw_init_96 : decode b_Lw_init 96 = .ok (.new 9, 3) := by decide +kernel
theorem d_Lw_init_99 : decode b_Lw_init 99 = .ok (.dup, 1) := by decide +kernel
theorem d_Lw_init_100 : decode b_Lw_init 100 = .ok (.invokespecial 15, 3) := by decide +kernel
theorem d_Lw_init_103 : decode b_Lw_init 103 = .ok (.aastore, 1) := by decide +kernel
theorem d_Lw_init_104 : decode b_Lw_init 104 = .ok (.iinc 1 1, 3) := by decide +kernel
theorem d_Lw_init_107 : decode b_Lw_init 107 = .ok (.goto (-22), 3) := by decide +kernel
theorem d_Lw_init_110 : decode b_Lw_init 110 = .ok (.return_, 1) := by decide +kernel
theorem d_Lw_set_0 : decode b_Lw_set 0 = .ok (.aload_n 0, 1) := by decide +kernel
theorem d_Lw_set_1 : decode b_Lw_set 1 = .ok (.iload_n 1, 1) := by decide +kernel
theorem d_Lw_set_2 : decode b_Lw_set 2 = .ok (.invokevirtual 52, 3) := by decide +kernel
theorem d_Lw_set_5 : decode b_Lw_set 5 = .ok (.astore 4, 2) := by decide +kernel
theorem d_Lw_set_7 : decode b_Lw_set 7 = .ok (.aload 4, 2) := by decide +kernel
theorem d_Lw_set_9 : decode b_Lw_set 9 = .ok (.lload_n 2, 1) := by decide +kernel
theorem d_Lw_set_10 : decode b_Lw_set 10 = .ok (.invokevirtual 56, 3) := by decide +kernel
theorem d_Lw_set_13 : decode b_Lw_set 13 = .ok (.aload 4, 2) := by decide +kernel
theorem d_Lw_set_15 : decode b_Lw_set 15 = .ok (.invokevirtual 60, 3) := by decide +kernel
theorem d_Lw_set_18 : decode b_Lw_set 18 = .ok (.ireturn, 1) := by decide +kernel
theorem d_Lw_registerAt_0 : decode b_Lw_registerAt 0 = .ok (.iload_n 1, 1) := by decide +kernel
theorem d_Lw_registerAt_1 : decode b_Lw_registerAt 1 = .ok (.iconst 0, 1) := by decide +kernel
theorem d_Lw_registerAt_2 : decode b_Lw_registerAt 2 = .ok (.bipush 9, 2) := by decide +kernel
theorem d_Lw_registerAt_4 : decode b_Lw_registerAt 4 = .ok (.invokestatic 70, 3) := by decide +kernel
theorem d_Lw_registerAt_7 : decode b_Lw_registerAt 7 = .ok (.aload_n 0, 1) := by decide +kernel
theorem d_Lw_registerAt_8 : decode b_Lw_registerAt 8 = .ok (.getfield 11, 3) := by decide +kernel
theorem d_Lw_registerAt_11 : decode b_Lw_registerAt 11 = .ok (.iload_n 1, 1) := by decide +kernel
theorem d_Lw_registerAt_12 : decode b_Lw_registerAt 12 = .ok (.aaload, 1) := by decide +kernel
theorem d_Lw_registerAt_13 : decode b_Lw_registerAt 13 = .ok (.areturn, 1) := by decide +kernel
theorem d_Lw_requireRange_0 : decode b_Lw_requireRange 0 = .ok (.iload_n 0, 1) := by decide +kernel
theorem d_Lw_requireRange_1 : decode b_Lw_requireRange 1 = .ok (.iload_n 1, 1) := by decide +kernel
theorem d_Lw_requireRange_2 : decode b_Lw_requireRange 2 = .ok (.if_icmp .lt 8, 3) := by decide +kernel
theorem d_Lw_requireRange_5 : decode b_Lw_requireRange 5 = .ok (.iload_n 0, 1) := by decide +kernel
theorem d_Lw_requireRange_6 : decode b_Lw_requireRange 6 = .ok (.iload_n 2, 1) := by decide +kernel
theorem d_Lw_requireRange_7 : decode b_Lw_requireRange 7 = .ok (.if_icmp .le 11, 3) := by decide +kernel
theorem d_Lw_requireRange_10 : decode b_Lw_requireRange 10 = .ok (.new 159, 3) := by decide +kernel
theorem d_Lw_requireRange_13 : decode b_Lw_requireRange 13 = .ok (.dup, 1) := by decide +kernel
theorem d_Lw_requireRange_14 : decode b_Lw_requireRange 14 = .ok (.invokespecial 161, 3) := by decide +kernel
theorem d_Lw_requireRange_17 : decode b_Lw_requireRange 17 = .ok (.athrow, 1) := by decide +kernel
theorem d_Lw_requireRange_18 : decode b_Lw_requireRange 18 = .ok (.return_, 1) := by decide +kernel
theorem d_Lw_bitsOf_0 : decode b_Lw_bitsOf 0 = .ok (.iload_n 0, 1) := by decide +kernel
theorem d_Lw_bitsOf_1 : decode b_Lw_bitsOf 1 = .ok (.iload_n 0, 1) := by decide +kernel
theorem d_Lw_bitsOf_2 : decode b_Lw_bitsOf 2 = .ok (.iconst 1, 1) := by decide +kernel
theorem d_Lw_bitsOf_3 : decode b_Lw_bitsOf 3 = .ok (.iushr, 1) := by decide +kernel
theorem d_Lw_bitsOf_4 : decode b_Lw_bitsOf 4 = .ok (.ior, 1) := by decide +kernel
theorem d_Lw_bitsOf_5 : decode b_Lw_bitsOf 5 = .ok (.istore_n 1, 1) := by decide +kernel
theorem d_Lw_bitsOf_6 : decode b_Lw_bitsOf 6 = .ok (.iload_n 1, 1) := by decide +kernel
theorem d_Lw_bitsOf_7 : decode b_Lw_bitsOf 7 = .ok (.iload_n 1, 1) := by decide +kernel
theorem d_Lw_bitsOf_8 : decode b_Lw_bitsOf 8 = .ok (.iconst 2, 1) := by decide +kernel
theorem d_Lw_bitsOf_9 : decode b_Lw_bitsOf 9 = .ok (.iushr, 1) := by decide +kernel
theorem d_Lw_bitsOf_10 : decode b_Lw_bitsOf 10 = .ok (.ior, 1) := by decide +kernel
theorem d_Lw_bitsOf_11 : decode b_Lw_bitsOf 11 = .ok (.istore_n 1, 1) := by decide +kernel
theorem d_Lw_bitsOf_12 : decode b_Lw_bitsOf 12 = .ok (.iload_n 1, 1) := by decide +kernel
theorem d_Lw_bitsOf_13 : decode b_Lw_bitsOf 13 = .ok (.iload_n 1, 1) := by decide +kernel
theorem d_Lw_bitsOf_14 : decode b_Lw_bitsOf 14 = .ok (.iconst 4, 1) := by decide +kernel
theorem d_Lw_bitsOf_15 : decode b_Lw_bitsOf 15 = .ok (.iushr, 1) := by decide +kernel
theorem d_Lw_bitsOf_16 : decode b_Lw_bitsOf 16 = .ok (.ior, 1) := by decide +kernel
theorem d_Lw_bitsOf_17 : decode b_Lw_bitsOf 17 = .ok (.istore_n 1, 1) := by decide +kernel
theorem d_Lw_bitsOf_18 : decode b_Lw_bitsOf 18 = .ok (.iload_n 1, 1) := by decide +kernel
theorem d_Lw_bitsOf_19 : decode b_Lw_bitsOf 19 = .ok (.iload_n 1, 1) := by decide +kernel
theorem d_Lw_bitsOf_20 : decode b_Lw_bitsOf 20 = .ok (.bipush 8, 2) := by decide +kernel
theorem d_Lw_bitsOf_22 : decode b_Lw_bitsOf 22 = .ok (.iushr, 1) := by decide +kernel
theorem d_Lw_bitsOf_23 : decode b_Lw_bitsOf 23 = .ok (.ior, 1) := by decide +kernel
theorem d_Lw_bitsOf_24 : decode b_Lw_bitsOf 24 = .ok (.istore_n 1, 1) := by decide +kernel
theorem d_Lw_bitsOf_25 : decode b_Lw_bitsOf 25 = .ok (.iload_n 1, 1) := by decide +kernel
theorem d_Lw_bitsOf_26 : decode b_Lw_bitsOf 26 = .ok (.iload_n 1, 1) := by decide +kernel
theorem d_Lw_bitsOf_27 : decode b_Lw_bitsOf 27 = .ok (.bipush 16, 2) := by decide +kernel
theorem d_Lw_bitsOf_29 : decode b_Lw_bitsOf 29 = .ok (.iushr, 1) := by decide +kernel
theorem d_Lw_bitsOf_30 : decode b_Lw_bitsOf 30 = .ok (.ior, 1) := by decide +kernel
theorem d_Lw_bitsOf_31 : decode b_Lw_bitsOf 31 = .ok (.istore_n 1, 1) := by decide +kernel
theorem d_Lw_bitsOf_32 : decode b_Lw_bitsOf 32 = .ok (.iload_n 1, 1) := by decide +kernel
theorem d_Lw_bitsOf_33 : decode b_Lw_bitsOf 33 = .ok (.invokestatic 169, 3) := by decide +kernel
theorem d_Lw_bitsOf_36 : decode b_Lw_bitsOf 36 = .ok (.ireturn, 1) := by decide +kernel
theorem d_Lw_copy_0 : decode b_Lw_copy 0 = .ok (.aload_n 0, 1) := by decide +kernel
theorem d_Lw_copy_1 : decode b_Lw_copy 1 = .ok (.iload_n 1, 1) := by decide +kernel
theorem d_Lw_copy_2 : decode b_Lw_copy 2 = .ok (.invokevirtual 52, 3) := by decide +kernel
theorem d_Lw_copy_5 : decode b_Lw_copy 5 = .ok (.astore_n 3, 1) := by decide +kernel
theorem d_Lw_copy_6 : decode b_Lw_copy 6 = .ok (.aload_n 3, 1) := by decide +kernel
theorem d_Lw_copy_7 : decode b_Lw_copy 7 = .ok (.aload_n 0, 1) := by decide +kernel
theorem d_Lw_copy_8 : decode b_Lw_copy 8 = .ok (.iload_n 2, 1) := by decide +kernel
theorem d_Lw_copy_9 : decode b_Lw_copy 9 = .ok (.invokevirtual 52, 3) := by decide +kernel
theorem d_Lw_copy_12 : decode b_Lw_copy 12 = .ok (.invokestatic 64, 3) := by decide +kernel
theorem d_Lw_copy_15 : decode b_Lw_copy 15 = .ok (.ireturn, 1) := by decide +kernel
theorem d_Lw_keep_0 : decode b_Lw_keep 0 = .ok (.aload_n 0, 1) := by decide +kernel
theorem d_Lw_keep_1 : decode b_Lw_keep 1 = .ok (.aload_n 1, 1) := by decide +kernel
theorem d_Lw_keep_2 : decode b_Lw_keep 2 = .ok (.invokevirtual 165, 3) := by decide +kernel
theorem d_Lw_keep_5 : decode b_Lw_keep 5 = .ok (.aload_n 0, 1) := by decide +kernel
theorem d_Lw_keep_6 : decode b_Lw_keep 6 = .ok (.invokevirtual 60, 3) := by decide +kernel
theorem d_Lw_keep_9 : decode b_Lw_keep 9 = .ok (.ireturn, 1) := by decide +kernel
theorem d_Lw_shift_0 : decode b_Lw_shift 0 = .ok (.aload_n 0, 1) := by decide +kernel
theorem d_Lw_shift_1 : decode b_Lw_shift 1 = .ok (.iload_n 1, 1) := by decide +kernel
theorem d_Lw_shift_2 : decode b_Lw_shift 2 = .ok (.invokevirtual 52, 3) := by decide +kernel
theorem d_Lw_shift_5 : decode b_Lw_shift 5 = .ok (.astore 4, 2) := by decide +kernel
theorem d_Lw_shift_7 : decode b_Lw_shift 7 = .ok (.aload_n 0, 1) := by decide +kernel
theorem d_Lw_shift_8 : decode b_Lw_shift 8 = .ok (.iload_n 2, 1) := by decide +kernel
theorem d_Lw_shift_9 : decode b_Lw_shift 9 = .ok (.invokevirtual 52, 3) := by decide +kernel
theorem d_Lw_shift_12 : decode b_Lw_shift 12 = .ok (.astore 5, 2) := by decide +kernel
theorem d_Lw_shift_14 : decode b_Lw_shift 14 = .ok (.iload_n 3, 1) := by decide +kernel
theorem d_Lw_shift_15 : decode b_Lw_shift 15 = .ok (.ldc 68, 2) := by decide +kernel
theorem d_Lw_shift_17 : decode b_Lw_shift 17 = .ok (.ldc 69, 2) := by decide +kernel
theorem d_Lw_shift_19 : decode b_Lw_shift 19 = .ok (.invokestatic 70, 3) := by decide +kernel
theorem d_Lw_shift_22 : decode b_Lw_shift 22 = .ok (.aload 5, 2) := by decide +kernel
theorem d_Lw_shift_24 : decode b_Lw_shift 24 = .ok (.invokevirtual 60, 3) := by decide +kernel
theorem d_Lw_shift_27 : decode b_Lw_shift 27 = .ok (.iload_n 3, 1) := by decide +kernel
theorem d_Lw_shift_28 : decode b_Lw_shift 28 = .ok (.iadd, 1) := by decide +kernel
theorem d_Lw_shift_29 : decode b_Lw_shift 29 = .ok (.ldc 69, 2) := by decide +kernel
theorem d_Lw_shift_31 : decode b_Lw_shift 31 = .ok (.invokestatic 74, 3) := by decide +kernel
theorem d_Lw_shift_34 : decode b_Lw_shift 34 = .ok (.aload 4, 2) := by decide +kernel
theorem d_Lw_shift_36 : decode b_Lw_shift 36 = .ok (.aload 5, 2) := by decide +kernel
theorem d_Lw_shift_38 : decode b_Lw_shift 38 = .ok (.iload_n 3, 1) := by decide +kernel
theorem d_Lw_shift_39 : decode b_Lw_shift 39 = .ok (.invokevirtual 78, 3) := by decide +kernel
theorem d_Lw_shift_42 : decode b_Lw_shift 42 = .ok (.aload 4, 2) := by decide +kernel
theorem d_Lw_shift_44 : decode b_Lw_shift 44 = .ok (.invokevirtual 60, 3) := by decide +kernel
theorem d_Lw_shift_47 : decode b_Lw_shift 47 = .ok (.ireturn, 1) := by decide +kernel
theorem d_Lw_refuseBeyond_0 : decode b_Lw_refuseBeyond 0 = .ok (.iload_n 0, 1) := by decide +kernel
theorem d_Lw_refuseBeyond_1 : decode b_Lw_refuseBeyond 1 = .ok (.iload_n 1, 1) := by decide +kernel
theorem d_Lw_refuseBeyond_2 : decode b_Lw_refuseBeyond 2 = .ok (.if_icmp .le 11, 3) := by decide +kernel
theorem d_Lw_refuseBeyond_5 : decode b_Lw_refuseBeyond 5 = .ok (.new 162, 3) := by decide +kernel
theorem d_Lw_refuseBeyond_8 : decode b_Lw_refuseBeyond 8 = .ok (.dup, 1) := by decide +kernel
theorem d_Lw_refuseBeyond_9 : decode b_Lw_refuseBeyond 9 = .ok (.invokespecial 164, 3) := by decide +kernel
theorem d_Lw_refuseBeyond_12 : decode b_Lw_refuseBeyond 12 = .ok (.athrow, 1) := by decide +kernel
theorem d_Lw_refuseBeyond_13 : decode b_Lw_refuseBeyond 13 = .ok (.return_, 1) := by decide +kernel
theorem d_Lw_add_0 : decode b_Lw_add 0 = .ok (.aload_n 0, 1) := by decide +kernel
theorem d_Lw_add_1 : decode b_Lw_add 1 = .ok (.iload_n 1, 1) := by decide +kernel
theorem d_Lw_add_2 : decode b_Lw_add 2 = .ok (.invokevirtual 52, 3) := by decide +kernel
theorem d_Lw_add_5 : decode b_Lw_add 5 = .ok (.astore 4, 2) := by decide +kernel
theorem d_Lw_add_7 : decode b_Lw_add 7 = .ok (.aload_n 0, 1) := by decide +kernel
theorem d_Lw_add_8 : decode b_Lw_add 8 = .ok (.getfield 16, 3) := by decide +kernel
theorem d_Lw_add_11 : decode b_Lw_add 11 = .ok (.aload_n 0, 1) := by decide +kernel
theorem d_Lw_add_12 : decode b_Lw_add 12 = .ok (.iload_n 2, 1) := by decide +kernel
theorem d_Lw_add_13 : decode b_Lw_add 13 = .ok (.invokevirtual 52, 3) := by decide +kernel
theorem d_Lw_add_16 : decode b_Lw_add 16 = .ok (.aload_n 0, 1) := by decide +kernel
theorem d_Lw_add_17 : decode b_Lw_add 17 = .ok (.iload_n 3, 1) := by decide +kernel
theorem d_Lw_add_18 : decode b_Lw_add 18 = .ok (.invokevirtual 52, 3) := by decide +kernel
theorem d_Lw_add_21 : decode b_Lw_add 21 = .ok (.invokevirtual 82, 3) := by decide +kernel
theorem d_Lw_add_24 : decode b_Lw_add 24 = .ok (.aload_n 0, 1) := by decide +kernel
theorem d_Lw_add_25 : decode b_Lw_add 25 = .ok (.getfield 16, 3) := by decide +kernel
theorem d_Lw_add_28 : decode b_Lw_add 28 = .ok (.invokevirtual 60, 3) := by decide +kernel
theorem d_Lw_add_31 : decode b_Lw_add 31 = .ok (.ldc 69, 2) := by decide +kernel
theorem d_Lw_add_33 : decode b_Lw_add 33 = .ok (.invokestatic 74, 3) := by decide +kernel
theorem d_Lw_add_36 : decode b_Lw_add 36 = .ok (.aload 4, 2) := by decide +kernel
theorem d_Lw_add_38 : decode b_Lw_add 38 = .ok (.aload_n 0, 1) := by decide +kernel
theorem d_Lw_add_39 : decode b_Lw_add 39 = .ok (.getfield 16, 3) := by decide +kernel
theorem d_Lw_add_42 : decode b_Lw_add 42 = .ok (.invokestatic 64, 3) := by decide +kernel
theorem d_Lw_add_45 : decode b_Lw_add 45 = .ok (.ireturn, 1) := by decide +kernel
theorem d_Lw_subtract_0 : decode b_Lw_subtract 0 = .ok (.aload_n 0, 1) := by decide +kernel
theorem d_Lw_subtract_1 : decode b_Lw_subtract 1 = .ok (.iload_n 1, 1) := by decide +kernel
theorem d_Lw_subtract_2 : decode b_Lw_subtract 2 = .ok (.invokevirtual 52, 3) := by decide +kernel
theorem d_Lw_subtract_5 : decode b_Lw_subtract 5 = .ok (.astore 4, 2) := by decide +kernel
theorem d_Lw_subtract_7 : decode b_Lw_subtract 7 = .ok (.aload_n 0, 1) := by decide +kernel
theorem d_Lw_subtract_8 : decode b_Lw_subtract 8 = .ok (.iload_n 2, 1) := by decide +kernel
theorem d_Lw_subtract_9 : decode b_Lw_subtract 9 = .ok (.invokevirtual 52, 3) := by decide +kernel
theorem d_Lw_subtract_12 : decode b_Lw_subtract 12 = .ok (.astore 5, 2) := by decide +kernel
theorem d_Lw_subtract_14 : decode b_Lw_subtract 14 = .ok (.aload_n 0, 1) := by decide +kernel
theorem d_Lw_subtract_15 : decode b_Lw_subtract 15 = .ok (.iload_n 3, 1) := by decide +kernel
theorem d_Lw_subtract_16 : decode b_Lw_subtract 16 = .ok (.invokevirtual 52, 3) := by decide +kernel
theorem d_Lw_subtract_19 : decode b_Lw_subtract 19 = .ok (.astore 6, 2) := by decide +kernel
theorem d_Lw_subtract_21 : decode b_Lw_subtract 21 = .ok (.aload 5, 2) := by decide +kernel
theorem d_Lw_subtract_23 : decode b_Lw_subtract 23 = .ok (.aload 6, 2) := by decide +kernel
theorem d_Lw_subtract_25 : decode b_Lw_subtract 25 = .ok (.invokevirtual 86, 3) := by decide +kernel
theorem d_Lw_subtract_28 : decode b_Lw_subtract 28 = .ok (.ifCond .ge 11, 3) := by decide +kernel
theorem d_Lw_subtract_31 : decode b_Lw_subtract 31 = .ok (.new 90, 3) := by decide +kernel
theorem d_Lw_subtract_34 : decode b_Lw_subtract 34 = .ok (.dup, 1) := by decide +kernel
theorem d_Lw_subtract_35 : decode b_Lw_subtract 35 = .ok (.invokespecial 92, 3) := by decide +kernel
theorem d_Lw_subtract_38 : decode b_Lw_subtract 38 = .ok (.athrow, 1) := by decide +kernel
theorem d_Lw_subtract_39 : decode b_Lw_subtract 39 = .ok (.aload 4, 2) := by decide +kernel
theorem d_Lw_subtract_41 : decode b_Lw_subtract 41 = .ok (.aload 5, 2) := by decide +kernel
theorem d_Lw_subtract_43 : decode b_Lw_subtract 43 = .ok (.aload 6, 2) := by decide +kernel
theorem d_Lw_subtract_45 : decode b_Lw_subtract 45 = .ok (.invokevirtual 93, 3) := by decide +kernel
theorem d_Lw_subtract_48 : decode b_Lw_subtract 48 = .ok (.aload 4, 2) := by decide +kernel
theorem d_Lw_subtract_50 : decode b_Lw_subtract 50 = .ok (.invokevirtual 60, 3) := by decide +kernel
theorem d_Lw_subtract_53 : decode b_Lw_subtract 53 = .ok (.ireturn, 1) := by decide +kernel
theorem d_Lw_times_0 : decode b_Lw_times 0 = .ok (.aload_n 0, 1) := by decide +kernel
theorem d_Lw_times_1 : decode b_Lw_times 1 = .ok (.iload_n 1, 1) := by decide +kernel
theorem d_Lw_times_2 : decode b_Lw_times 2 = .ok (.invokevirtual 52, 3) := by decide +kernel
theorem d_Lw_times_5 : decode b_Lw_times 5 = .ok (.astore 4, 2) := by decide +kernel
theorem d_Lw_times_7 : decode b_Lw_times 7 = .ok (.aload_n 0, 1) := by decide +kernel
theorem d_Lw_times_8 : decode b_Lw_times 8 = .ok (.iload_n 2, 1) := by decide +kernel
theorem d_Lw_times_9 : decode b_Lw_times 9 = .ok (.invokevirtual 52, 3) := by decide +kernel
theorem d_Lw_times_12 : decode b_Lw_times 12 = .ok (.astore 5, 2) := by decide +kernel
theorem d_Lw_times_14 : decode b_Lw_times 14 = .ok (.aload_n 0, 1) := by decide +kernel
theorem d_Lw_times_15 : decode b_Lw_times 15 = .ok (.iload_n 3, 1) := by decide +kernel
theorem d_Lw_times_16 : decode b_Lw_times 16 = .ok (.invokevirtual 52, 3) := by decide +kernel
theorem d_Lw_times_19 : decode b_Lw_times 19 = .ok (.astore 6, 2) := by decide +kernel
theorem d_Lw_times_21 : decode b_Lw_times 21 = .ok (.aload 5, 2) := by decide +kernel
theorem d_Lw_times_23 : decode b_Lw_times 23 = .ok (.invokevirtual 60, 3) := by decide +kernel
theorem d_Lw_times_26 : decode b_Lw_times 26 = .ok (.aload 6, 2) := by decide +kernel
theorem d_Lw_times_28 : decode b_Lw_times 28 = .ok (.invokevirtual 60, 3) := by decide +kernel
theorem d_Lw_times_31 : decode b_Lw_times 31 = .ok (.iadd, 1) := by decide +kernel
theorem d_Lw_times_32 : decode b_Lw_times 32 = .ok (.ldc 69, 2) := by decide +kernel
theorem d_Lw_times_34 : decode b_Lw_times 34 = .ok (.invokestatic 74, 3) := by decide +kernel
theorem d_Lw_times_37 : decode b_Lw_times 37 = .ok (.aload_n 0, 1) := by decide +kernel
theorem d_Lw_times_38 : decode b_Lw_times 38 = .ok (.getfield 23, 3) := by decide +kernel
theorem d_Lw_times_41 : decode b_Lw_times 41 = .ok (.aload 4, 2) := by decide +kernel
theorem d_Lw_times_43 : decode b_Lw_times 43 = .ok (.aload 5, 2) := by decide +kernel
theorem d_Lw_times_45 : decode b_Lw_times 45 = .ok (.aload 6, 2) := by decide +kernel
theorem d_Lw_times_47 : decode b_Lw_times 47 = .ok (.invokevirtual 96, 3) := by decide +kernel
theorem d_Lw_times_50 : decode b_Lw_times 50 = .ok (.aload 4, 2) := by decide +kernel
theorem d_Lw_times_52 : decode b_Lw_times 52 = .ok (.invokevirtual 60, 3) := by decide +kernel
theorem d_Lw_times_55 : decode b_Lw_times 55 = .ok (.ireturn, 1) := by decide +kernel
theorem d_Lw_divide_0 : decode b_Lw_divide 0 = .ok (.aload_n 0, 1) := by decide +kernel
theorem d_Lw_divide_1 : decode b_Lw_divide 1 = .ok (.iload_n 1, 1) := by decide +kernel
theorem d_Lw_divide_2 : decode b_Lw_divide 2 = .ok (.invokevirtual 52, 3) := by decide +kernel
theorem d_Lw_divide_5 : decode b_Lw_divide 5 = .ok (.astore 5, 2) := by decide +kernel
theorem d_Lw_divide_7 : decode b_Lw_divide 7 = .ok (.aload_n 0, 1) := by decide +kernel
theorem d_Lw_divide_8 : decode b_Lw_divide 8 = .ok (.iload_n 2, 1) := by decide +kernel
theorem d_Lw_divide_9 : decode b_Lw_divide 9 = .ok (.invokevirtual 52, 3) := by decide +kernel
theorem d_Lw_divide_12 : decode b_Lw_divide 12 = .ok (.astore 6, 2) := by decide +kernel
theorem d_Lw_divide_14 : decode b_Lw_divide 14 = .ok (.aload_n 0, 1) := by decide +kernel
theorem d_Lw_divide_15 : decode b_Lw_divide 15 = .ok (.iload_n 3, 1) := by decide +kernel
theorem d_Lw_divide_16 : decode b_Lw_divide 16 = .ok (.invokevirtual 52, 3) := by decide +kernel
theorem d_Lw_divide_19 : decode b_Lw_divide 19 = .ok (.astore 7, 2) := by decide +kernel
theorem d_Lw_divide_21 : decode b_Lw_divide 21 = .ok (.aload_n 0, 1) := by decide +kernel
theorem d_Lw_divide_22 : decode b_Lw_divide 22 = .ok (.iload 4, 2) := by decide +kernel
theorem d_Lw_divide_24 : decode b_Lw_divide 24 = .ok (.invokevirtual 52, 3) := by decide +kernel
theorem d_Lw_divide_27 : decode b_Lw_divide 27 = .ok (.astore 8, 2) := by decide +kernel
theorem d_Lw_divide_29 : decode b_Lw_divide 29 = .ok (.aload 8, 2) := by decide +kernel
theorem d_Lw_divide_31 : decode b_Lw_divide 31 = .ok (.getfield 100, 3) := by decide +kernel
theorem d_Lw_divide_34 : decode b_Lw_divide 34 = .ok (.ifCond .ne 11, 3) := by decide +kernel
theorem d_Lw_divide_37 : decode b_Lw_divide 37 = .ok (.new 90, 3) := by decide +kernel
theorem d_Lw_divide_40 : decode b_Lw_divide 40 = .ok (.dup, 1) := by decide +kernel
theorem d_Lw_divide_41 : decode b_Lw_divide 41 = .ok (.invokespecial 92, 3) := by decide +kernel
theorem d_Lw_divide_44 : decode b_Lw_divide 44 = .ok (.athrow, 1) := by decide +kernel
theorem d_Lw_divide_45 : decode b_Lw_divide 45 = .ok (.aload_n 0, 1) := by decide +kernel
theorem d_Lw_divide_46 : decode b_Lw_divide 46 = .ok (.getfield 23, 3) := by decide +kernel
theorem d_Lw_divide_49 : decode b_Lw_divide 49 = .ok (.aload 5, 2) := by decide +kernel
theorem d_Lw_divide_51 : decode b_Lw_divide 51 = .ok (.aload 6, 2) := by decide +kernel
theorem d_Lw_divide_53 : decode b_Lw_divide 53 = .ok (.aload 7, 2) := by decide +kernel
theorem d_Lw_divide_55 : decode b_Lw_divide 55 = .ok (.aload 8, 2) := by decide +kernel
theorem d_Lw_divide_57 : decode b_Lw_divide 57 = .ok (.invokevirtual 103, 3) := by decide +kernel
theorem d_Lw_divide_60 : decode b_Lw_divide 60 = .ok (.ireturn, 1) := by decide +kernel
theorem d_Lw_power_0 : decode b_Lw_power 0 = .ok (.aload_n 0, 1) := by decide +kernel
theorem d_Lw_power_1 : decode b_Lw_power 1 = .ok (.iload_n 1, 1) := by decide +kernel
theorem d_Lw_power_2 : decode b_Lw_power 2 = .ok (.invokevirtual 52, 3) := by decide +kernel
theorem d_Lw_power_5 : decode b_Lw_power 5 = .ok (.astore 4, 2) := by decide +kernel
theorem d_Lw_power_7 : decode b_Lw_power 7 = .ok (.aload_n 0, 1) := by decide +kernel
theorem d_Lw_power_8 : decode b_Lw_power 8 = .ok (.iload_n 2, 1) := by decide +kernel
theorem d_Lw_power_9 : decode b_Lw_power 9 = .ok (.invokevirtual 52, 3) := by decide +kernel
theorem d_Lw_power_12 : decode b_Lw_power 12 = .ok (.astore 5, 2) := by decide +kernel
theorem d_Lw_power_14 : decode b_Lw_power 14 = .ok (.iload_n 3, 1) := by decide +kernel
theorem d_Lw_power_15 : decode b_Lw_power 15 = .ok (.iconst 0, 1) := by decide +kernel
theorem d_Lw_power_16 : decode b_Lw_power 16 = .ok (.bipush 100, 2) := by decide +kernel
theorem d_Lw_power_18 : decode b_Lw_power 18 = .ok (.invokestatic 70, 3) := by decide +kernel
theorem d_Lw_power_21 : decode b_Lw_power 21 = .ok (.iload_n 3, 1) := by decide +kernel
theorem d_Lw_power_22 : decode b_Lw_power 22 = .ok (.aload 5, 2) := by decide +kernel
theorem d_Lw_power_24 : decode b_Lw_power 24 = .ok (.invokevirtual 60, 3) := by decide +kernel
theorem d_Lw_power_27 : decode b_Lw_power 27 = .ok (.imul, 1) := by decide +kernel
theorem d_Lw_power_28 : decode b_Lw_power 28 = .ok (.ldc 69, 2) := by decide +kernel
theorem d_Lw_power_30 : decode b_Lw_power 30 = .ok (.invokestatic 74, 3) := by decide +kernel
theorem d_Lw_power_33 : decode b_Lw_power 33 = .ok (.aload_n 0, 1) := by decide +kernel
theorem d_Lw_power_34 : decode b_Lw_power 34 = .ok (.getfield 23, 3) := by decide +kernel
theorem d_Lw_power_37 : decode b_Lw_power 37 = .ok (.aload_n 0, 1) := by decide +kernel
theorem d_Lw_power_38 : decode b_Lw_power 38 = .ok (.getfield 16, 3) := by decide +kernel
theorem d_Lw_power_41 : decode b_Lw_power 41 = .ok (.aload 5, 2) := by decide +kernel
theorem d_Lw_power_43 : decode b_Lw_power 43 = .ok (.iload_n 3, 1) := by decide +kernel
theorem d_Lw_power_44 : decode b_Lw_power 44 = .ok (.invokevirtual 107, 3) := by decide +kernel
theorem d_Lw_power_47 : decode b_Lw_power 47 = .ok (.aload 4, 2) := by decide +kernel
theorem d_Lw_power_49 : decode b_Lw_power 49 = .ok (.aload_n 0, 1) := by decide +kernel
theorem d_Lw_power_50 : decode b_Lw_power 50 = .ok (.getfield 16, 3) := by decide +kernel
theorem d_Lw_power_53 : decode b_Lw_power 53 = .ok (.invokestatic 64, 3) := by decide +kernel
theorem d_Lw_power_56 : decode b_Lw_power 56 = .ok (.ireturn, 1) := by decide +kernel
theorem d_Lw_root_0 : decode b_Lw_root 0 = .ok (.aload_n 0, 1) := by decide +kernel
theorem d_Lw_root_1 : decode b_Lw_root 1 = .ok (.iload_n 1, 1) := by decide +kernel
theorem d_Lw_root_2 : decode b_Lw_root 2 = .ok (.invokevirtual 52, 3) := by decide +kernel
theorem d_Lw_root_5 : decode b_Lw_root 5 = .ok (.astore 4, 2) := by decide +kernel
theorem d_Lw_root_7 : decode b_Lw_root 7 = .ok (.aload_n 0, 1) := by decide +kernel
theorem d_Lw_root_8 : decode b_Lw_root 8 = .ok (.iload_n 2, 1) := by decide +kernel
theorem d_Lw_root_9 : decode b_Lw_root 9 = .ok (.invokevirtual 52, 3) := by decide +kernel
theorem d_Lw_root_12 : decode b_Lw_root 12 = .ok (.astore 5, 2) := by decide +kernel
theorem d_Lw_root_14 : decode b_Lw_root 14 = .ok (.iload_n 3, 1) := by decide +kernel
theorem d_Lw_root_15 : decode b_Lw_root 15 = .ok (.iconst 1, 1) := by decide +kernel
theorem d_Lw_root_16 : decode b_Lw_root 16 = .ok (.bipush 40, 2) := by decide +kernel
theorem d_Lw_root_18 : decode b_Lw_root 18 = .ok (.invokestatic 70, 3) := by decide +kernel
theorem d_Lw_root_21 : decode b_Lw_root 21 = .ok (.aload_n 0, 1) := by decide +kernel
theorem d_Lw_root_22 : decode b_Lw_root 22 = .ok (.getfield 30, 3) := by decide +kernel
theorem d_Lw_root_25 : decode b_Lw_root 25 = .ok (.aload_n 0, 1) := by decide +kernel
theorem d_Lw_root_26 : decode b_Lw_root 26 = .ok (.getfield 16, 3) := by decide +kernel
theorem d_Lw_root_29 : decode b_Lw_root 29 = .ok (.aload 5, 2) := by decide +kernel
theorem d_Lw_root_31 : decode b_Lw_root 31 = .ok (.iload_n 3, 1) := by decide +kernel
theorem d_Lw_root_32 : decode b_Lw_root 32 = .ok (.aload_n 0, 1) := by decide +kernel
theorem d_Lw_root_33 : decode b_Lw_root 33 = .ok (.getfield 23, 3) := by decide +kernel
theorem d_Lw_root_36 : decode b_Lw_root 36 = .ok (.invokevirtual 111, 3) := by decide +kernel
theorem d_Lw_root_39 : decode b_Lw_root 39 = .ok (.aload 4, 2) := by decide +kernel
theorem d_Lw_root_41 : decode b_Lw_root 41 = .ok (.aload_n 0, 1) := by decide +kernel
theorem d_Lw_root_42 : decode b_Lw_root 42 = .ok (.getfield 16, 3) := by decide +kernel
theorem d_Lw_root_45 : decode b_Lw_root 45 = .ok (.invokestatic 64, 3) := by decide +kernel
theorem d_Lw_root_48 : decode b_Lw_root 48 = .ok (.ireturn, 1) := by decide +kernel
theorem d_Lw_compare_0 : decode b_Lw_compare 0 = .ok (.aload_n 0, 1) := by decide +kernel
theorem d_Lw_compare_1 : decode b_Lw_compare 1 = .ok (.iload_n 1, 1) := by decide +kernel
theorem d_Lw_compare_2 : decode b_Lw_compare 2 = .ok (.invokevirtual 52, 3) := by decide +kernel
theorem d_Lw_compare_5 : decode b_Lw_compare 5 = .ok (.aload_n 0, 1) := by decide +kernel
theorem d_Lw_compare_6 : decode b_Lw_compare 6 = .ok (.iload_n 2, 1) := by decide +kernel
theorem d_Lw_compare_7 : decode b_Lw_compare 7 = .ok (.invokevirtual 52, 3) := by decide +kernel
theorem d_Lw_compare_10 : decode b_Lw_compare 10 = .ok (.invokevirtual 86, 3) := by decide +kernel
theorem d_Lw_compare_13 : decode b_Lw_compare 13 = .ok (.ireturn, 1) := by decide +kernel
theorem d_Lw_bits_0 : decode b_Lw_bits 0 = .ok (.aload_n 0, 1) := by decide +kernel
theorem d_Lw_bits_1 : decode b_Lw_bits 1 = .ok (.iload_n 1, 1) := by decide +kernel
theorem d_Lw_bits_2 : decode b_Lw_bits 2 = .ok (.invokevirtual 52, 3) := by decide +kernel
theorem d_Lw_bits_5 : decode b_Lw_bits 5 = .ok (.invokevirtual 60, 3) := by decide +kernel
theorem d_Lw_bits_8 : decode b_Lw_bits 8 = .ok (.ireturn, 1) := by decide +kernel
theorem d_Lw_word_0 : decode b_Lw_word 0 = .ok (.aload_n 0, 1) := by decide +kernel
theorem d_Lw_word_1 : decode b_Lw_word 1 = .ok (.iload_n 1, 1) := by decide +kernel
theorem d_Lw_word_2 : decode b_Lw_word 2 = .ok (.invokevirtual 52, 3) := by decide +kernel
theorem d_Lw_word_5 : decode b_Lw_word 5 = .ok (.astore_n 3, 1) := by decide +kernel
theorem d_Lw_word_6 : decode b_Lw_word 6 = .ok (.iload_n 2, 1) := by decide +kernel
theorem d_Lw_word_7 : decode b_Lw_word 7 = .ok (.iconst 0, 1) := by decide +kernel
theorem d_Lw_word_8 : decode b_Lw_word 8 = .ok (.sipush 6249, 3) := by decide +kernel
theorem d_Lw_word_11 : decode b_Lw_word 11 = .ok (.invokestatic 70, 3) := by decide +kernel
theorem d_Lw_word_14 : decode b_Lw_word 14 = .ok (.iload_n 2, 1) := by decide +kernel
theorem d_Lw_word_15 : decode b_Lw_word 15 = .ok (.aload_n 3, 1) := by decide +kernel
theorem d_Lw_word_16 : decode b_Lw_word 16 = .ok (.getfield 100, 3) := by decide +kernel
theorem d_Lw_word_19 : decode b_Lw_word 19 = .ok (.if_icmp .ge 17, 3) := by decide +kernel
theorem d_Lw_word_22 : decode b_Lw_word 22 = .ok (.aload_n 3, 1) := by decide +kernel
theorem d_Lw_word_23 : decode b_Lw_word 23 = .ok (.getfield 115, 3) := by decide +kernel
theorem d_Lw_word_26 : decode b_Lw_word 26 = .ok (.iload_n 2, 1) := by decide +kernel
theorem d_Lw_word_27 : decode b_Lw_word 27 = .ok (.iaload, 1) := by decide +kernel
theorem d_Lw_word_28 : decode b_Lw_word 28 = .ok (.i2l, 1) := by decide +kernel
theorem d_Lw_word_29 : decode b_Lw_word 29 = .ok (.ldc2_w 118, 3) := by decide +kernel
theorem d_Lw_word_32 : decode b_Lw_word 32 = .ok (.land, 1) := by decide +kernel
theorem d_Lw_word_33 : decode b_Lw_word 33 = .ok (.goto 4, 3) := by decide +kernel
theorem d_Lw_word_36 : decode b_Lw_word 36 = .ok (.lconst 0, 1) := by decide +kernel
theorem d_Lw_word_37 : decode b_Lw_word 37 = .ok (.lreturn, 1) := by decide +kernel
theorem d_Lw_feed_0 : decode b_Lw_feed 0 = .ok (.aload_n 0, 1) := by decide +kernel
theorem d_Lw_feed_1 : decode b_Lw_feed 1 = .ok (.getfield 45, 3) := by decide +kernel
theorem d_Lw_feed_4 : decode b_Lw_feed 4 = .ok (.bipush 20, 2) := by decide +kernel
theorem d_Lw_feed_6 : decode b_Lw_feed 6 = .ok (.iadd, 1) := by decide +kernel
theorem d_Lw_feed_7 : decode b_Lw_feed 7 = .ok (.sipush 4096, 3) := by decide +kernel
theorem d_Lw_feed_10 : decode b_Lw_feed 10 = .ok (.invokestatic 74, 3) := by decide +kernel
theorem d_Lw_feed_13 : decode b_Lw_feed 13 = .ok (.aload_n 0, 1) := by decide +kernel
theorem d_Lw_feed_14 : decode b_Lw_feed 14 = .ok (.iload_n 1, 1) := by decide +kernel
theorem d_Lw_feed_15 : decode b_Lw_feed 15 = .ok (.invokevirtual 120, 3) := by decide +kernel
theorem d_Lw_feed_18 : decode b_Lw_feed 18 = .ok (.aload_n 0, 1) := by decide +kernel
theorem d_Lw_feed_19 : decode b_Lw_feed 19 = .ok (.iload_n 2, 1) := by decide +kernel
theorem d_Lw_feed_20 : decode b_Lw_feed 20 = .ok (.invokevirtual 120, 3) := by decide +kernel
theorem d_Lw_feed_23 : decode b_Lw_feed 23 = .ok (.aload_n 0, 1) := by decide +kernel
theorem d_Lw_feed_24 : decode b_Lw_feed 24 = .ok (.iload_n 3, 1) := by decide +kernel
theorem d_Lw_feed_25 : decode b_Lw_feed 25 = .ok (.invokevirtual 120, 3) := by decide +kernel
theorem d_Lw_feed_28 : decode b_Lw_feed 28 = .ok (.aload_n 0, 1) := by decide +kernel
theorem d_Lw_feed_29 : decode b_Lw_feed 29 = .ok (.iload 4, 2) := by decide +kernel
theorem d_Lw_feed_31 : decode b_Lw_feed 31 = .ok (.invokevirtual 120, 3) := by decide +kernel
theorem d_Lw_feed_34 : decode b_Lw_feed 34 = .ok (.aload_n 0, 1) := by decide +kernel
theorem d_Lw_feed_35 : decode b_Lw_feed 35 = .ok (.iload 5, 2) := by decide +kernel
theorem d_Lw_feed_37 : decode b_Lw_feed 37 = .ok (.invokevirtual 120, 3) := by decide +kernel
theorem d_Lw_feed_40 : decode b_Lw_feed 40 = .ok (.return_, 1) := by decide +kernel
theorem d_Lw_feedWord_0 : decode b_Lw_feedWord 0 = .ok (.bipush 24, 2) := by decide +kernel
theorem d_Lw_feedWord_2 : decode b_Lw_feedWord 2 = .ok (.istore_n 2, 1) := by decide +kernel
theorem d_Lw_feedWord_3 : decode b_Lw_feedWord 3 = .ok (.iload_n 2, 1) := by decide +kernel
theorem d_Lw_feedWord_4 : decode b_Lw_feedWord 4 = .ok (.ifCond .lt 32, 3) := by decide +kernel
theorem d_Lw_feedWord_7 : decode b_Lw_feedWord 7 = .ok (.aload_n 0, 1) := by decide +kernel
theorem d_Lw_feedWord_8 : decode b_Lw_feedWord 8 = .ok (.getfield 38, 3) := by decide +kernel
theorem d_Lw_feedWord_11 : decode b_Lw_feedWord 11 = .ok (.aload_n 0, 1) := by decide +kernel
theorem d_Lw_feedWord_12 : decode b_Lw_feedWord 12 = .ok (.getfield 45, 3) := by decide +kernel
theorem d_Lw_feedWord_15 : decode b_Lw_feedWord 15 = .ok (.iload_n 1, 1) := by decide +kernel
theorem d_Lw_feedWord_16 : decode b_Lw_feedWord 16 = .ok (.iload_n 2, 1) := by decide +kernel
theorem d_Lw_feedWord_17 : decode b_Lw_feedWord 17 = .ok (.ishr, 1) := by decide +kernel
theorem d_Lw_feedWord_18 : decode b_Lw_feedWord 18 = .ok (.i2b, 1) := by decide +kernel
theorem d_Lw_feedWord_19 : decode b_Lw_feedWord 19 = .ok (.bastore, 1) := by decide +kernel
theorem d_Lw_feedWord_20 : decode b_Lw_feedWord 20 = .ok (.aload_n 0, 1) := by decide +kernel
theorem d_Lw_feedWord_21 : decode b_Lw_feedWord 21 = .ok (.dup, 1) := by decide +kernel
theorem d_Lw_feedWord_22 : decode b_Lw_feedWord 22 = .ok (.getfield 45, 3) := by decide +kernel
theorem d_Lw_feedWord_25 : decode b_Lw_feedWord 25 = .ok (.iconst 1, 1) := by decide +kernel
theorem d_Lw_feedWord_26 : decode b_Lw_feedWord 26 = .ok (.iadd, 1) := by decide +kernel
theorem d_Lw_feedWord_27 : decode b_Lw_feedWord 27 = .ok (.putfield 45, 3) := by decide +kernel
theorem d_Lw_feedWord_30 : decode b_Lw_feedWord 30 = .ok (.iinc 2 (-8), 3) := by decide +kernel
theorem d_Lw_feedWord_33 : decode b_Lw_feedWord 33 = .ok (.goto (-30), 3) := by decide +kernel
theorem d_Lw_feedWord_36 : decode b_Lw_feedWord 36 = .ok (.return_, 1) := by decide +kernel
theorem d_Lw_end_0 : decode b_Lw_end 0 = .ok (.iload_n 1, 1) := by decide +kernel
theorem d_Lw_end_1 : decode b_Lw_end 1 = .ok (.iconst 0, 1) := by decide +kernel
theorem d_Lw_end_2 : decode b_Lw_end 2 = .ok (.aload_n 0, 1) := by decide +kernel
theorem d_Lw_end_3 : decode b_Lw_end 3 = .ok (.getfield 45, 3) := by decide +kernel
theorem d_Lw_end_6 : decode b_Lw_end 6 = .ok (.invokestatic 70, 3) := by decide +kernel
theorem d_Lw_end_9 : decode b_Lw_end 9 = .ok (.aload_n 0, 1) := by decide +kernel
theorem d_Lw_end_10 : decode b_Lw_end 10 = .ok (.getfield 45, 3) := by decide +kernel
theorem d_Lw_end_13 : decode b_Lw_end 13 = .ok (.iload_n 1, 1) := by decide +kernel
theorem d_Lw_end_14 : decode b_Lw_end 14 = .ok (.isub, 1) := by decide +kernel
theorem d_Lw_end_15 : decode b_Lw_end 15 = .ok (.istore_n 2, 1) := by decide +kernel
theorem d_Lw_end_16 : decode b_Lw_end 16 = .ok (.aload_n 0, 1) := by decide +kernel
theorem d_Lw_end_17 : decode b_Lw_end 17 = .ok (.iload_n 1, 1) := by decide +kernel
theorem d_Lw_end_18 : decode b_Lw_end 18 = .ok (.putfield 45, 3) := by decide +kernel
theorem d_Lw_end_21 : decode b_Lw_end 21 = .ok (.iload_n 2, 1) := by decide +kernel
theorem d_Lw_end_22 : decode b_Lw_end 22 = .ok (.ireturn, 1) := by decide +kernel
theorem d_Lw_read_0 : decode b_Lw_read 0 = .ok (.aload_n 0, 1) := by decide +kernel
theorem d_Lw_read_1 : decode b_Lw_read 1 = .ok (.iload_n 1, 1) := by decide +kernel
theorem d_Lw_read_2 : decode b_Lw_read 2 = .ok (.invokevirtual 52, 3) := by decide +kernel
theorem d_Lw_read_5 : decode b_Lw_read 5 = .ok (.astore_n 3, 1) := by decide +kernel
theorem d_Lw_read_6 : decode b_Lw_read 6 = .ok (.iload_n 2, 1) := by decide +kernel
theorem d_Lw_read_7 : decode b_Lw_read 7 = .ok (.iconst 2, 1) := by decide +kernel
theorem d_Lw_read_8 : decode b_Lw_read 8 = .ok (.bipush 36, 2) := by decide +kernel
theorem d_Lw_read_10 : decode b_Lw_read 10 = .ok (.invokestatic 70, 3) := by decide +kernel
theorem d_Lw_read_13 : decode b_Lw_read 13 = .ok (.aload_n 0, 1) := by decide +kernel
theorem d_Lw_read_14 : decode b_Lw_read 14 = .ok (.getfield 45, 3) := by decide +kernel
theorem d_Lw_read_17 : decode b_Lw_read 17 = .ok (.istore 4, 2) := by decide +kernel
theorem d_Lw_read_19 : decode b_Lw_read 19 = .ok (.aload_n 0, 1) := by decide +kernel
theorem d_Lw_read_20 : decode b_Lw_read 20 = .ok (.iconst 0, 1) := by decide +kernel
theorem d_Lw_read_21 : decode b_Lw_read 21 = .ok (.putfield 45, 3) := by decide +kernel
theorem d_Lw_read_24 : decode b_Lw_read 24 = .ok (.aload_n 0, 1) := by decide +kernel
theorem d_Lw_read_25 : decode b_Lw_read 25 = .ok (.iload 4, 2) := by decide +kernel
theorem d_Lw_read_27 : decode b_Lw_read 27 = .ok (.iload_n 2, 1) := by decide +kernel
theorem d_Lw_read_28 : decode b_Lw_read 28 = .ok (.invokevirtual 124, 3) := by decide +kernel
theorem d_Lw_read_31 : decode b_Lw_read 31 = .ok (.ifCond .ne 11, 3) := by decide +kernel
theorem d_Lw_read_34 : decode b_Lw_read 34 = .ok (.new 128, 3) := by decide +kernel
theorem d_Lw_read_37 : decode b_Lw_read 37 = .ok (.dup, 1) := by decide +kernel
theorem d_Lw_read_38 : decode b_Lw_read 38 = .ok (.invokespecial 130, 3) := by decide +kernel
theorem d_Lw_read_41 : decode b_Lw_read 41 = .ok (.athrow, 1) := by decide +kernel
theorem d_Lw_read_42 : decode b_Lw_read 42 = .ok (.aload_n 0, 1) := by decide +kernel
theorem d_Lw_read_43 : decode b_Lw_read 43 = .ok (.iload 4, 2) := by decide +kernel
theorem d_Lw_read_45 : decode b_Lw_read 45 = .ok (.iload_n 2, 1) := by decide +kernel
theorem d_Lw_read_46 : decode b_Lw_read 46 = .ok (.invokevirtual 131, 3) := by decide +kernel
theorem d_Lw_read_49 : decode b_Lw_read 49 = .ok (.aload_n 3, 1) := by decide +kernel
theorem d_Lw_read_50 : decode b_Lw_read 50 = .ok (.aload_n 0, 1) := by decide +kernel
theorem d_Lw_read_51 : decode b_Lw_read 51 = .ok (.getfield 16, 3) := by decide +kernel
theorem d_Lw_read_54 : decode b_Lw_read 54 = .ok (.invokestatic 64, 3) := by decide +kernel
theorem d_Lw_read_57 : decode b_Lw_read 57 = .ok (.ireturn, 1) := by decide +kernel
theorem d_Lw_hasDigitsAlone_0 : decode b_Lw_hasDigitsAlone 0 = .ok (.iconst 0, 1) := by decide +kernel
theorem d_Lw_hasDigitsAlone_1 : decode b_Lw_hasDigitsAlone 1 = .ok (.istore_n 3, 1) := by decide +kernel
theorem d_Lw_hasDigitsAlone_2 : decode b_Lw_hasDigitsAlone 2 = .ok (.iload_n 3, 1) := by decide +kernel
theorem d_Lw_hasDigitsAlone_3 : decode b_Lw_hasDigitsAlone 3 = .ok (.iload_n 1, 1) := by decide +kernel
theorem d_Lw_hasDigitsAlone_4 : decode b_Lw_hasDigitsAlone 4 = .ok (.if_icmp .ge 24, 3) := by decide +kernel
theorem d_Lw_hasDigitsAlone_7 : decode b_Lw_hasDigitsAlone 7 = .ok (.aload_n 0, 1) := by decide +kernel
theorem d_Lw_hasDigitsAlone_8 : decode b_Lw_hasDigitsAlone 8 = .ok (.getfield 38, 3) := by decide +kernel
theorem d_Lw_hasDigitsAlone_11 : decode b_Lw_hasDigitsAlone 11 = .ok (.iload_n 3, 1) := by decide +kernel
theorem d_Lw_hasDigitsAlone_12 : decode b_Lw_hasDigitsAlone 12 = .ok (.baload, 1) := by decide +kernel
theorem d_Lw_hasDigitsAlone_13 : decode b_Lw_hasDigitsAlone 13 = .ok (.invokestatic 174, 3) := by decide +kernel
theorem d_Lw_hasDigitsAlone_16 : decode b_Lw_hasDigitsAlone 16 = .ok (.iload_n 2, 1) := by decide +kernel
theorem d_Lw_hasDigitsAlone_17 : decode b_Lw_hasDigitsAlone 17 = .ok (.if_icmp .lt 5, 3) := by decide +kernel
theorem d_Lw_hasDigitsAlone_20 : decode b_Lw_hasDigitsAlone 20 = .ok (.iconst 0, 1) := by decide +kernel
theorem d_Lw_hasDigitsAlone_21 : decode b_Lw_hasDigitsAlone 21 = .ok (.ireturn, 1) := by decide +kernel
theorem d_Lw_hasDigitsAlone_22 : decode b_Lw_hasDigitsAlone 22 = .ok (.iinc 3 1, 3) := by decide +kernel
theorem d_Lw_hasDigitsAlone_25 : decode b_Lw_hasDigitsAlone 25 = .ok (.goto (-23), 3) := by decide +kernel
theorem d_Lw_hasDigitsAlone_28 : decode b_Lw_hasDigitsAlone 28 = .ok (.iconst 1, 1) := by decide +kernel
theorem d_Lw_hasDigitsAlone_29 : decode b_Lw_hasDigitsAlone 29 = .ok (.ireturn, 1) := by decide +kernel
theorem d_Lw_digitOf_0 : decode b_Lw_digitOf 0 = .ok (.iload_n 0, 1) := by decide +kernel
theorem d_Lw_digitOf_1 : decode b_Lw_digitOf 1 = .ok (.bipush 48, 2) := by decide +kernel
theorem d_Lw_digitOf_3 : decode b_Lw_digitOf 3 = .ok (.if_icmp .lt 14, 3) := by decide +kernel
theorem d_Lw_digitOf_6 : decode b_Lw_digitOf 6 = .ok (.iload_n 0, 1) := by decide +kernel
theorem d_Lw_digitOf_7 : decode b_Lw_digitOf 7 = .ok (.bipush 57, 2) := by decide +kernel
theorem d_Lw_digitOf_9 : decode b_Lw_digitOf 9 = .ok (.if_icmp .gt 8, 3) := by decide +kernel
theorem d_Lw_digitOf_12 : decode b_Lw_digitOf 12 = .ok (.iload_n 0, 1) := by decide +kernel
theorem d_Lw_digitOf_13 : decode b_Lw_digitOf 13 = .ok (.bipush 48, 2) := by decide +kernel
theorem d_Lw_digitOf_15 : decode b_Lw_digitOf 15 = .ok (.isub, 1) := by decide +kernel
theorem d_Lw_digitOf_16 : decode b_Lw_digitOf 16 = .ok (.ireturn, 1) := by decide +kernel
theorem d_Lw_digitOf_17 : decode b_Lw_digitOf 17 = .ok (.iload_n 0, 1) := by decide +kernel
theorem d_Lw_digitOf_18 : decode b_Lw_digitOf 18 = .ok (.bipush 97, 2) := by decide +kernel
theorem d_Lw_digitOf_20 : decode b_Lw_digitOf 20 = .ok (.if_icmp .lt 17, 3) := by decide +kernel
theorem d_Lw_digitOf_23 : decode b_Lw_digitOf 23 = .ok (.iload_n 0, 1) := by decide +kernel
theorem d_Lw_digitOf_24 : decode b_Lw_digitOf 24 = .ok (.bipush 122, 2) := by decide +kernel
theorem d_Lw_digitOf_26 : decode b_Lw_digitOf 26 = .ok (.if_icmp .gt 11, 3) := by decide +kernel
theorem d_Lw_digitOf_29 : decode b_Lw_digitOf 29 = .ok (.iload_n 0, 1) := by decide +kernel
theorem d_Lw_digitOf_30 : decode b_Lw_digitOf 30 = .ok (.bipush 97, 2) := by decide +kernel
theorem d_Lw_digitOf_32 : decode b_Lw_digitOf 32 = .ok (.isub, 1) := by decide +kernel
theorem d_Lw_digitOf_33 : decode b_Lw_digitOf 33 = .ok (.bipush 10, 2) := by decide +kernel
theorem d_Lw_digitOf_35 : decode b_Lw_digitOf 35 = .ok (.iadd, 1) := by decide +kernel
theorem d_Lw_digitOf_36 : decode b_Lw_digitOf 36 = .ok (.ireturn, 1) := by decide +kernel
theorem d_Lw_digitOf_37 : decode b_Lw_digitOf 37 = .ok (.iload_n 0, 1) := by decide +kernel
theorem d_Lw_digitOf_38 : decode b_Lw_digitOf 38 = .ok (.bipush 65, 2) := by decide +kernel
theorem d_Lw_digitOf_40 : decode b_Lw_digitOf 40 = .ok (.if_icmp .lt 17, 3) := by decide +kernel
theorem d_Lw_digitOf_43 : decode b_Lw_digitOf 43 = .ok (.iload_n 0, 1) := by decide +kernel
theorem d_Lw_digitOf_44 : decode b_Lw_digitOf 44 = .ok (.bipush 90, 2) := by decide +kernel
theorem d_Lw_digitOf_46 : decode b_Lw_digitOf 46 = .ok (.if_icmp .gt 11, 3) := by decide +kernel
theorem d_Lw_digitOf_49 : decode b_Lw_digitOf 49 = .ok (.iload_n 0, 1) := by decide +kernel
theorem d_Lw_digitOf_50 : decode b_Lw_digitOf 50 = .ok (.bipush 65, 2) := by decide +kernel
theorem d_Lw_digitOf_52 : decode b_Lw_digitOf 52 = .ok (.isub, 1) := by decide +kernel
theorem d_Lw_digitOf_53 : decode b_Lw_digitOf 53 = .ok (.bipush 10, 2) := by decide +kernel
theorem d_Lw_digitOf_55 : decode b_Lw_digitOf 55 = .ok (.iadd, 1) := by decide +kernel
theorem d_Lw_digitOf_56 : decode b_Lw_digitOf 56 = .ok (.ireturn, 1) := by decide +kernel
theorem d_Lw_digitOf_57 : decode b_Lw_digitOf 57 = .ok (.bipush 36, 2) := by decide +kernel
theorem d_Lw_digitOf_59 : decode b_Lw_digitOf 59 = .ok (.ireturn, 1) := by decide +kernel
theorem d_Lw_readDigits_0 : decode b_Lw_readDigits 0 = .ok (.iload_n 2, 1) := by decide +kernel
theorem d_Lw_readDigits_1 : decode b_Lw_readDigits 1 = .ok (.invokestatic 138, 3) := by decide +kernel
theorem d_Lw_readDigits_4 : decode b_Lw_readDigits 4 = .ok (.istore_n 3, 1) := by decide +kernel
theorem d_Lw_readDigits_5 : decode b_Lw_readDigits 5 = .ok (.aload_n 0, 1) := by decide +kernel
theorem d_Lw_readDigits_6 : decode b_Lw_readDigits 6 = .ok (.getfield 16, 3) := by decide +kernel
theorem d_Lw_readDigits_9 : decode b_Lw_readDigits 9 = .ok (.lconst 0, 1) := by decide +kernel
theorem d_Lw_readDigits_10 : decode b_Lw_readDigits 10 = .ok (.invokevirtual 56, 3) := by decide +kernel
theorem d_Lw_readDigits_13 : decode b_Lw_readDigits 13 = .ok (.iconst 0, 1) := by decide +kernel
theorem d_Lw_readDigits_14 : decode b_Lw_readDigits 14 = .ok (.istore 4, 2) := by decide +kernel
theorem d_Lw_readDigits_16 : decode b_Lw_readDigits 16 = .ok (.iload 4, 2) := by decide +kernel
theorem d_Lw_readDigits_18 : decode b_Lw_readDigits 18 = .ok (.iload_n 1, 1) := by decide +kernel
theorem d_Lw_readDigits_19 : decode b_Lw_readDigits 19 = .ok (.if_icmp .ge 76, 3) := by decide +kernel
theorem d_Lw_readDigits_22 : decode b_Lw_readDigits 22 = .ok (.iload_n 3, 1) := by decide +kernel
theorem d_Lw_readDigits_23 : decode b_Lw_readDigits 23 = .ok (.iload_n 1, 1) := by decide +kernel
theorem d_Lw_readDigits_24 : decode b_Lw_readDigits 24 = .ok (.iload 4, 2) := by decide +kernel
theorem d_Lw_readDigits_26 : decode b_Lw_readDigits 26 = .ok (.isub, 1) := by decide +kernel
theorem d_Lw_readDigits_27 : decode b_Lw_readDigits 27 = .ok (.invokestatic 177, 3) := by decide +kernel
theorem d_Lw_readDigits_30 : decode b_Lw_readDigits 30 = .ok (.istore 5, 2) := by decide +kernel
theorem d_Lw_readDigits_32 : decode b_Lw_readDigits 32 = .ok (.iconst 0, 1) := by decide +kernel
theorem d_Lw_readDigits_33 : decode b_Lw_readDigits 33 = .ok (.istore 6, 2) := by decide +kernel
theorem d_Lw_readDigits_35 : decode b_Lw_readDigits 35 = .ok (.iconst 0, 1) := by decide +kernel
theorem d_Lw_readDigits_36 : decode b_Lw_readDigits 36 = .ok (.istore 7, 2) := by decide +kernel
theorem d_Lw_readDigits_38 : decode b_Lw_readDigits 38 = .ok (.iload 7, 2) := by decide +kernel
theorem d_Lw_readDigits_40 : decode b_Lw_readDigits 40 = .ok (.iload 5, 2) := by decide +kernel
theorem d_Lw_readDigits_42 : decode b_Lw_readDigits 42 = .ok (.if_icmp .ge 29, 3) := by decide +kernel
theorem d_Lw_readDigits_45 : decode b_Lw_readDigits 45 = .ok (.iload 6, 2) := by decide +kernel
theorem d_Lw_readDigits_47 : decode b_Lw_readDigits 47 = .ok (.iload_n 2, 1) := by decide +kernel
theorem d_Lw_readDigits_48 : decode b_Lw_readDigits 48 = .ok (.imul, 1) := by decide +kernel
theorem d_Lw_readDigits_49 : decode b_Lw_readDigits 49 = .ok (.aload_n 0, 1) := by decide +kernel
theorem d_Lw_readDigits_50 : decode b_Lw_readDigits 50 = .ok (.getfield 38, 3) := by decide +kernel
theorem d_Lw_readDigits_53 : decode b_Lw_readDigits 53 = .ok (.iload 4, 2) := by decide +kernel
theorem d_Lw_readDigits_55 : decode b_Lw_readDigits 55 = .ok (.iload 7, 2) := by decide +kernel
theorem d_Lw_readDigits_57 : decode b_Lw_readDigits 57 = .ok (.iadd, 1) := by decide +kernel
theorem d_Lw_readDigits_58 : decode b_Lw_readDigits 58 = .ok (.baload, 1) := by decide +kernel
theorem d_Lw_readDigits_59 : decode b_Lw_readDigits 59 = .ok (.invokestatic 174, 3) := by decide +kernel
theorem d_Lw_readDigits_62 : decode b_Lw_readDigits 62 = .ok (.iadd, 1) := by decide +kernel
theorem d_Lw_readDigits_63 : decode b_Lw_readDigits 63 = .ok (.istore 6, 2) := by decide +kernel
theorem d_Lw_readDigits_65 : decode b_Lw_readDigits 65 = .ok (.iinc 7 1, 3) := by decide +kernel
theorem d_Lw_readDigits_68 : decode b_Lw_readDigits 68 = .ok (.goto (-30), 3) := by decide +kernel
theorem d_Lw_readDigits_71 : decode b_Lw_readDigits 71 = .ok (.aload_n 0, 1) := by decide +kernel
theorem d_Lw_readDigits_72 : decode b_Lw_readDigits 72 = .ok (.getfield 16, 3) := by decide +kernel
theorem d_Lw_readDigits_75 : decode b_Lw_readDigits 75 = .ok (.iload_n 2, 1) := by decide +kernel
theorem d_Lw_readDigits_76 : decode b_Lw_readDigits 76 = .ok (.iload 5, 2) := by decide +kernel
theorem d_Lw_readDigits_78 : decode b_Lw_readDigits 78 = .ok (.invokestatic 141, 3) := by decide +kernel
theorem d_Lw_readDigits_81 : decode b_Lw_readDigits 81 = .ok (.iload 6, 2) := by decide +kernel
theorem d_Lw_readDigits_83 : decode b_Lw_readDigits 83 = .ok (.invokevirtual 182, 3) := by decide +kernel
theorem d_Lw_readDigits_86 : decode b_Lw_readDigits 86 = .ok (.iload 4, 2) := by decide +kernel
theorem d_Lw_readDigits_88 : decode b_Lw_readDigits 88 = .ok (.iload_n 3, 1) := by decide +kernel
theorem d_Lw_readDigits_89 : decode b_Lw_readDigits 89 = .ok (.iadd, 1) := by decide +kernel
theorem d_Lw_readDigits_90 : decode b_Lw_readDigits 90 = .ok (.istore 4, 2) := by decide +kernel
theorem d_Lw_readDigits_92 : decode b_Lw_readDigits 92 = .ok (.goto (-76), 3) := by decide +kernel
theorem d_Lw_readDigits_95 : decode b_Lw_readDigits 95 = .ok (.return_, 1) := by decide +kernel
theorem d_Lw_digitsOfPiece_0 : decode b_Lw_digitsOfPiece 0 = .ok (.iconst 1, 1) := by decide +kernel
theorem d_Lw_digitsOfPiece_1 : decode b_Lw_digitsOfPiece 1 = .ok (.istore_n 1, 1) := by decide +kernel
theorem d_Lw_digitsOfPiece_2 : decode b_Lw_digitsOfPiece 2 = .ok (.iload_n 0, 1) := by decide +kernel
theorem d_Lw_digitsOfPiece_3 : decode b_Lw_digitsOfPiece 3 = .ok (.istore_n 2, 1) := by decide +kernel
theorem d_Lw_digitsOfPiece_4 : decode b_Lw_digitsOfPiece 4 = .ok (.iconst 1, 1) := by decide +kernel
theorem d_Lw_digitsOfPiece_5 : decode b_Lw_digitsOfPiece 5 = .ok (.istore_n 3, 1) := by decide +kernel
theorem d_Lw_digitsOfPiece_6 : decode b_Lw_digitsOfPiece 6 = .ok (.iload_n 3, 1) := by decide +kernel
theorem d_Lw_digitsOfPiece_7 : decode b_Lw_digitsOfPiece 7 = .ok (.bipush 31, 2) := by decide +kernel
theorem d_Lw_digitsOfPiece_9 : decode b_Lw_digitsOfPiece 9 = .ok (.if_icmp .ge 24, 3) := by decide +kernel
theorem d_Lw_digitsOfPiece_12 : decode b_Lw_digitsOfPiece 12 = .ok (.iload_n 2, 1) := by decide +kernel
theorem d_Lw_digitsOfPiece_13 : decode b_Lw_digitsOfPiece 13 = .ok (.ldc 185, 2) := by decide +kernel
theorem d_Lw_digitsOfPiece_15 : decode b_Lw_digitsOfPiece 15 = .ok (.iload_n 0, 1) := by decide +kernel
theorem d_Lw_digitsOfPiece_16 : decode b_Lw_digitsOfPiece 16 = .ok (.idiv, 1) := by decide +kernel
theorem d_Lw_digitsOfPiece_17 : decode b_Lw_digitsOfPiece 17 = .ok (.if_icmp .gt 16, 3) := by decide +kernel
theorem d_Lw_digitsOfPiece_20 : decode b_Lw_digitsOfPiece 20 = .ok (.iload_n 2, 1) := by decide +kernel
theorem d_Lw_digitsOfPiece_21 : decode b_Lw_digitsOfPiece 21 = .ok (.iload_n 0, 1) := by decide +kernel
theorem d_Lw_digitsOfPiece_22 : decode b_Lw_digitsOfPiece 22 = .ok (.imul, 1) := by decide +kernel
theorem d_Lw_digitsOfPiece_23 : decode b_Lw_digitsOfPiece 23 = .ok (.istore_n 2, 1) := by decide +kernel
theorem d_Lw_digitsOfPiece_24 : decode b_Lw_digitsOfPiece 24 = .ok (.iinc 1 1, 3) := by decide +kernel
theorem d_Lw_digitsOfPiece_27 : decode b_Lw_digitsOfPiece 27 = .ok (.iinc 3 1, 3) := by decide +kernel
theorem d_Lw_digitsOfPiece_30 : decode b_Lw_digitsOfPiece 30 = .ok (.goto (-24), 3) := by decide +kernel
theorem d_Lw_digitsOfPiece_33 : decode b_Lw_digitsOfPiece 33 = .ok (.iload_n 1, 1) := by decide +kernel
theorem d_Lw_digitsOfPiece_34 : decode b_Lw_digitsOfPiece 34 = .ok (.ireturn, 1) := by decide +kernel
theorem d_Lw_powerOf_0 : decode b_Lw_powerOf 0 = .ok (.iconst 1, 1) := by decide +kernel
theorem d_Lw_powerOf_1 : decode b_Lw_powerOf 1 = .ok (.istore_n 2, 1) := by decide +kernel
theorem d_Lw_powerOf_2 : decode b_Lw_powerOf 2 = .ok (.iconst 0, 1) := by decide +kernel
theorem d_Lw_powerOf_3 : decode b_Lw_powerOf 3 = .ok (.istore_n 3, 1) := by decide +kernel
theorem d_Lw_powerOf_4 : decode b_Lw_powerOf 4 = .ok (.iload_n 3, 1) := by decide +kernel
theorem d_Lw_powerOf_5 : decode b_Lw_powerOf 5 = .ok (.iload_n 1, 1) := by decide +kernel
theorem d_Lw_powerOf_6 : decode b_Lw_powerOf 6 = .ok (.if_icmp .ge 13, 3) := by decide +kernel
theorem d_Lw_powerOf_9 : decode b_Lw_powerOf 9 = .ok (.iload_n 2, 1) := by decide +kernel
theorem d_Lw_powerOf_10 : decode b_Lw_powerOf 10 = .ok (.iload_n 0, 1) := by decide +kernel
theorem d_Lw_powerOf_11 : decode b_Lw_powerOf 11 = .ok (.imul, 1) := by decide +kernel
theorem d_Lw_powerOf_12 : decode b_Lw_powerOf 12 = .ok (.istore_n 2, 1) := by decide +kernel
theorem d_Lw_powerOf_13 : decode b_Lw_powerOf 13 = .ok (.iinc 3 1, 3) := by decide +kernel
theorem d_Lw_powerOf_16 : decode b_Lw_powerOf 16 = .ok (.goto (-12), 3) := by decide +kernel
theorem d_Lw_powerOf_19 : decode b_Lw_powerOf 19 = .ok (.iload_n 2, 1) := by decide +kernel
theorem d_Lw_powerOf_20 : decode b_Lw_powerOf 20 = .ok (.ireturn, 1) := by decide +kernel
theorem d_Lw_write_0 : decode b_Lw_write 0 = .ok (.aload_n 0, 1) := by decide +kernel
theorem d_Lw_write_1 : decode b_Lw_write 1 = .ok (.iload_n 1, 1) := by decide +kernel
theorem d_Lw_write_2 : decode b_Lw_write 2 = .ok (.invokevirtual 52, 3) := by decide +kernel
theorem d_Lw_write_5 : decode b_Lw_write 5 = .ok (.astore_n 3, 1) := by decide +kernel
theorem d_Lw_write_6 : decode b_Lw_write 6 = .ok (.iload_n 2, 1) := by decide +kernel
theorem d_Lw_write_7 : decode b_Lw_write 7 = .ok (.iconst 2, 1) := by decide +kernel
theorem d_Lw_write_8 : decode b_Lw_write 8 = .ok (.bipush 36, 2) := by decide +kernel
theorem d_Lw_write_10 : decode b_Lw_write 10 = .ok (.invokestatic 70, 3) := by decide +kernel
theorem d_Lw_write_13 : decode b_Lw_write 13 = .ok (.aload_n 3, 1) := by decide +kernel
theorem d_Lw_write_14 : decode b_Lw_write 14 = .ok (.invokevirtual 60, 3) := by decide +kernel
theorem d_Lw_write_17 : decode b_Lw_write 17 = .ok (.sipush 20000, 3) := by decide +kernel
theorem d_Lw_write_20 : decode b_Lw_write 20 = .ok (.iload_n 2, 1) := by decide +kernel
theorem d_Lw_write_21 : decode b_Lw_write 21 = .ok (.iconst 1, 1) := by decide +kernel
theorem d_Lw_write_22 : decode b_Lw_write 22 = .ok (.isub, 1) := by decide +kernel
theorem d_Lw_write_23 : decode b_Lw_write 23 = .ok (.invokestatic 134, 3) := by decide +kernel
theorem d_Lw_write_26 : decode b_Lw_write 26 = .ok (.imul, 1) := by decide +kernel
theorem d_Lw_write_27 : decode b_Lw_write 27 = .ok (.invokestatic 74, 3) := by decide +kernel
theorem d_Lw_write_30 : decode b_Lw_write 30 = .ok (.iload_n 2, 1) := by decide +kernel
theorem d_Lw_write_31 : decode b_Lw_write 31 = .ok (.invokestatic 138, 3) := by decide +kernel
theorem d_Lw_write_34 : decode b_Lw_write 34 = .ok (.istore 4, 2) := by decide +kernel
theorem d_Lw_write_36 : decode b_Lw_write 36 = .ok (.aload_n 0, 1) := by decide +kernel
theorem d_Lw_write_37 : decode b_Lw_write 37 = .ok (.aload_n 3, 1) := by decide +kernel
theorem d_Lw_write_38 : decode b_Lw_write 38 = .ok (.iload_n 2, 1) := by decide +kernel
theorem d_Lw_write_39 : decode b_Lw_write 39 = .ok (.iload 4, 2) := by decide +kernel
theorem d_Lw_write_41 : decode b_Lw_write 41 = .ok (.invokestatic 141, 3) := by decide +kernel
theorem d_Lw_write_44 : decode b_Lw_write 44 = .ok (.invokevirtual 145, 3) := by decide +kernel
theorem d_Lw_write_47 : decode b_Lw_write 47 = .ok (.istore 5, 2) := by decide +kernel
theorem d_Lw_write_49 : decode b_Lw_write 49 = .ok (.aload_n 0, 1) := by decide +kernel
theorem d_Lw_write_50 : decode b_Lw_write 50 = .ok (.iload 5, 2) := by decide +kernel
theorem d_Lw_write_52 : decode b_Lw_write 52 = .ok (.iload_n 2, 1) := by decide +kernel
theorem d_Lw_write_53 : decode b_Lw_write 53 = .ok (.iload 4, 2) := by decide +kernel
theorem d_Lw_write_55 : decode b_Lw_write 55 = .ok (.invokevirtual 149, 3) := by decide +kernel
theorem d_Lw_write_58 : decode b_Lw_write 58 = .ok (.istore 6, 2) := by decide +kernel
theorem d_Lw_write_60 : decode b_Lw_write 60 = .ok (.iload 6, 2) := by decide +kernel
theorem d_Lw_write_62 : decode b_Lw_write 62 = .ok (.sipush 20000, 3) := by decide +kernel
theorem d_Lw_write_65 : decode b_Lw_write 65 = .ok (.invokestatic 74, 3) := by decide +kernel
theorem d_Lw_write_68 : decode b_Lw_write 68 = .ok (.aload_n 0, 1) := by decide +kernel
theorem d_Lw_write_69 : decode b_Lw_write 69 = .ok (.iload 6, 2) := by decide +kernel
theorem d_Lw_write_71 : decode b_Lw_write 71 = .ok (.iload_n 2, 1) := by decide +kernel
theorem d_Lw_write_72 : decode b_Lw_write 72 = .ok (.iload 4, 2) := by decide +kernel
theorem d_Lw_write_74 : decode b_Lw_write 74 = .ok (.invokevirtual 153, 3) := by decide +kernel
theorem d_Lw_write_77 : decode b_Lw_write 77 = .ok (.aload_n 0, 1) := by decide +kernel
theorem d_Lw_write_78 : decode b_Lw_write 78 = .ok (.iload 6, 2) := by decide +kernel
theorem d_Lw_write_80 : decode b_Lw_write 80 = .ok (.putfield 49, 3) := by decide +kernel
theorem d_Lw_write_83 : decode b_Lw_write 83 = .ok (.iload 6, 2) := by decide +kernel
theorem d_Lw_write_85 : decode b_Lw_write 85 = .ok (.ireturn, 1) := by decide +kernel
theorem d_Lw_cutIntoPieces_0 : decode b_Lw_cutIntoPieces 0 = .ok (.aload_n 0, 1) := by decide +kernel
theorem d_Lw_cutIntoPieces_1 : decode b_Lw_cutIntoPieces 1 = .ok (.getfield 16, 3) := by decide +kernel
theorem d_Lw_cutIntoPieces_4 : decode b_Lw_cutIntoPieces 4 = .ok (.aload_n 1, 1) := by decide +kernel
theorem d_Lw_cutIntoPieces_5 : decode b_Lw_cutIntoPieces 5 = .ok (.invokevirtual 165, 3) := by decide +kernel
theorem d_Lw_cutIntoPieces_8 : decode b_Lw_cutIntoPieces 8 = .ok (.aload_n 0, 1) := by decide +kernel
theorem d_Lw_cutIntoPieces_9 : decode b_Lw_cutIntoPieces 9 = .ok (.getfield 34, 3) := by decide +kernel
theorem d_Lw_cutIntoPieces_12 : decode b_Lw_cutIntoPieces 12 = .ok (.iconst 0, 1) := by decide +kernel
theorem d_Lw_cutIntoPieces_13 : decode b_Lw_cutIntoPieces 13 = .ok (.aload_n 0, 1) := by decide +kernel
theorem d_Lw_cutIntoPieces_14 : decode b_Lw_cutIntoPieces 14 = .ok (.getfield 16, 3) := by decide +kernel
theorem d_Lw_cutIntoPieces_17 : decode b_Lw_cutIntoPieces 17 = .ok (.iload_n 2, 1) := by decide +kernel
theorem d_Lw_cutIntoPieces_18 : decode b_Lw_cutIntoPieces 18 = .ok (.invokevirtual 186, 3) := by decide +kernel
theorem d_Lw_cutIntoPieces_21 : decode b_Lw_cutIntoPieces 21 = .ok (.iastore, 1) := by decide +kernel
theorem d_Lw_cutIntoPieces_22 : decode b_Lw_cutIntoPieces 22 = .ok (.iconst 1, 1) := by decide +kernel
theorem d_Lw_cutIntoPieces_23 : decode b_Lw_cutIntoPieces 23 = .ok (.istore_n 3, 1) := by decide +kernel
theorem d_Lw_cutIntoPieces_24 : decode b_Lw_cutIntoPieces 24 = .ok (.aload_n 0, 1) := by decide +kernel
theorem d_Lw_cutIntoPieces_25 : decode b_Lw_cutIntoPieces 25 = .ok (.getfield 16, 3) := by decide +kernel
theorem d_Lw_cutIntoPieces_28 : decode b_Lw_cutIntoPieces 28 = .ok (.getfield 100, 3) := by decide +kernel
theorem d_Lw_cutIntoPieces_31 : decode b_Lw_cutIntoPieces 31 = .ok (.ifCond .le 30, 3) := by decide +kernel
theorem d_Lw_cutIntoPieces_34 : decode b_Lw_cutIntoPieces 34 = .ok (.iload_n 3, 1) := by decide +kernel
theorem d_Lw_cutIntoPieces_35 : decode b_Lw_cutIntoPieces 35 = .ok (.sipush 4800, 3) := by decide +kernel
theorem d_Lw_cutIntoPieces_38 : decode b_Lw_cutIntoPieces 38 = .ok (.if_icmp .ge 23, 3) := by decide +kernel
theorem d_Lw_cutIntoPieces_41 : decode b_Lw_cutIntoPieces 41 = .ok (.aload_n 0, 1) := by decide +kernel
theorem d_Lw_cutIntoPieces_42 : decode b_Lw_cutIntoPieces 42 = .ok (.getfield 34, 3) := by decide +kernel
theorem d_Lw_cutIntoPieces_45 : decode b_Lw_cutIntoPieces 45 = .ok (.iload_n 3, 1) := by decide +kernel
theorem d_Lw_cutIntoPieces_46 : decode b_Lw_cutIntoPieces 46 = .ok (.aload_n 0, 1) := by decide +kernel
theorem d_Lw_cutIntoPieces_47 : decode b_Lw_cutIntoPieces 47 = .ok (.getfield 16, 3) := by decide +kernel
theorem d_Lw_cutIntoPieces_50 : decode b_Lw_cutIntoPieces 50 = .ok (.iload_n 2, 1) := by decide +kernel
theorem d_Lw_cutIntoPieces_51 : decode b_Lw_cutIntoPieces 51 = .ok (.invokevirtual 186, 3) := by decide +kernel
theorem d_Lw_cutIntoPieces_54 : decode b_Lw_cutIntoPieces 54 = .ok (.iastore, 1) := by decide +kernel
theorem d_Lw_cutIntoPieces_55 : decode b_Lw_cutIntoPieces 55 = .ok (.iinc 3 1, 3) := by decide +kernel
theorem d_Lw_cutIntoPieces_58 : decode b_Lw_cutIntoPieces 58 = .ok (.goto (-34), 3) := by decide +kernel
theorem d_Lw_cutIntoPieces_61 : decode b_Lw_cutIntoPieces 61 = .ok (.iload_n 3, 1) := by decide +kernel
theorem d_Lw_cutIntoPieces_62 : decode b_Lw_cutIntoPieces 62 = .ok (.ireturn, 1) := by decide +kernel
theorem d_Lw_countDigits_0 : decode b_Lw_countDigits 0 = .ok (.iload_n 1, 1) := by decide +kernel
theorem d_Lw_countDigits_1 : decode b_Lw_countDigits 1 = .ok (.iconst 1, 1) := by decide +kernel
theorem d_Lw_countDigits_2 : decode b_Lw_countDigits 2 = .ok (.isub, 1) := by decide +kernel
theorem d_Lw_countDigits_3 : decode b_Lw_countDigits 3 = .ok (.iload_n 3, 1) := by decide +kernel
theorem d_Lw_countDigits_4 : decode b_Lw_countDigits 4 = .ok (.imul, 1) := by decide +kernel
theorem d_Lw_countDigits_5 : decode b_Lw_countDigits 5 = .ok (.iconst 1, 1) := by decide +kernel
theorem d_Lw_countDigits_6 : decode b_Lw_countDigits 6 = .ok (.iadd, 1) := by decide +kernel
theorem d_Lw_countDigits_7 : decode b_Lw_countDigits 7 = .ok (.istore 4, 2) := by decide +kernel
theorem d_Lw_countDigits_9 : decode b_Lw_countDigits 9 = .ok (.aload_n 0, 1) := by decide +kernel
theorem d_Lw_countDigits_10 : decode b_Lw_countDigits 10 = .ok (.getfield 34, 3) := by decide +kernel
theorem d_Lw_countDigits_13 : decode b_Lw_countDigits 13 = .ok (.iload_n 1, 1) := by decide +kernel
theorem d_Lw_countDigits_14 : decode b_Lw_countDigits 14 = .ok (.iconst 1, 1) := by decide +kernel
theorem d_Lw_countDigits_15 : decode b_Lw_countDigits 15 = .ok (.isub, 1) := by decide +kernel
theorem d_Lw_countDigits_16 : decode b_Lw_countDigits 16 = .ok (.iaload, 1) := by decide +kernel
theorem d_Lw_countDigits_17 : decode b_Lw_countDigits 17 = .ok (.iload_n 2, 1) := by decide +kernel
theorem d_Lw_countDigits_18 : decode b_Lw_countDigits 18 = .ok (.idiv, 1) := by decide +kernel
theorem d_Lw_countDigits_19 : decode b_Lw_countDigits 19 = .ok (.istore 5, 2) := by decide +kernel
theorem d_Lw_countDigits_21 : decode b_Lw_countDigits 21 = .ok (.iconst 1, 1) := by decide +kernel
theorem d_Lw_countDigits_22 : decode b_Lw_countDigits 22 = .ok (.istore 6, 2) := by decide +kernel
theorem d_Lw_countDigits_24 : decode b_Lw_countDigits 24 = .ok (.iload 6, 2) := by decide +kernel
theorem d_Lw_countDigits_26 : decode b_Lw_countDigits 26 = .ok (.iload_n 3, 1) := by decide +kernel
theorem d_Lw_countDigits_27 : decode b_Lw_countDigits 27 = .ok (.if_icmp .ge 23, 3) := by decide +kernel
theorem d_Lw_countDigits_30 : decode b_Lw_countDigits 30 = .ok (.iload 5, 2) := by decide +kernel
theorem d_Lw_countDigits_32 : decode b_Lw_countDigits 32 = .ok (.ifCond .le 18, 3) := by decide +kernel
theorem d_Lw_countDigits_35 : decode b_Lw_countDigits 35 = .ok (.iload 5, 2) := by decide +kernel
theorem d_Lw_countDigits_37 : decode b_Lw_countDigits 37 = .ok (.iload_n 2, 1) := by decide +kernel
theorem d_Lw_countDigits_38 : decode b_Lw_countDigits 38 = .ok (.idiv, 1) := by decide +kernel
theorem d_Lw_countDigits_39 : decode b_Lw_countDigits 39 = .ok (.istore 5, 2) := by decide +kernel
theorem d_Lw_countDigits_41 : decode b_Lw_countDigits 41 = .ok (.iinc 4 1, 3) := by decide +kernel
theorem d_Lw_countDigits_44 : decode b_Lw_countDigits 44 = .ok (.iinc 6 1, 3) := by decide +kernel
theorem d_Lw_countDigits_47 : decode b_Lw_countDigits 47 = .ok (.goto (-23), 3) := by decide +kernel
theorem d_Lw_countDigits_50 : decode b_Lw_countDigits 50 = .ok (.iload 4, 2) := by decide +kernel
theorem d_Lw_countDigits_52 : decode b_Lw_countDigits 52 = .ok (.ireturn, 1) := by decide +kernel
theorem d_Lw_writeDigits_0 : decode b_Lw_writeDigits 0 = .ok (.iconst 0, 1) := by decide +kernel
theorem d_Lw_writeDigits_1 : decode b_Lw_writeDigits 1 = .ok (.istore 4, 2) := by decide +kernel
theorem d_Lw_writeDigits_3 : decode b_Lw_writeDigits 3 = .ok (.iconst 0, 1) := by decide +kernel
theorem d_Lw_writeDigits_4 : decode b_Lw_writeDigits 4 = .ok (.istore 5, 2) := by decide +kernel
theorem d_Lw_writeDigits_6 : decode b_Lw_writeDigits 6 = .ok (.iload 5, 2) := by decide +kernel
theorem d_Lw_writeDigits_8 : decode b_Lw_writeDigits 8 = .ok (.iload_n 1, 1) := by decide +kernel
theorem d_Lw_writeDigits_9 : decode b_Lw_writeDigits 9 = .ok (.if_icmp .ge 74, 3) := by decide +kernel
theorem d_Lw_writeDigits_12 : decode b_Lw_writeDigits 12 = .ok (.iload 5, 2) := by decide +kernel
theorem d_Lw_writeDigits_14 : decode b_Lw_writeDigits 14 = .ok (.iload_n 3, 1) := by decide +kernel
theorem d_Lw_writeDigits_15 : decode b_Lw_writeDigits 15 = .ok (.irem, 1) := by decide +kernel
theorem d_Lw_writeDigits_16 : decode b_Lw_writeDigits 16 = .ok (.ifCond .ne 14, 3) := by decide +kernel
theorem d_Lw_writeDigits_19 : decode b_Lw_writeDigits 19 = .ok (.aload_n 0, 1) := by decide +kernel
theorem d_Lw_writeDigits_20 : decode b_Lw_writeDigits 20 = .ok (.getfield 34, 3) := by decide +kernel
theorem d_Lw_writeDigits_23 : decode b_Lw_writeDigits 23 = .ok (.iload 5, 2) := by decide +kernel
theorem d_Lw_writeDigits_25 : decode b_Lw_writeDigits 25 = .ok (.iload_n 3, 1) := by decide +kernel
theorem d_Lw_writeDigits_26 : decode b_Lw_writeDigits 26 = .ok (.idiv, 1) := by decide +kernel
theorem d_Lw_writeDigits_27 : decode b_Lw_writeDigits 27 = .ok (.iaload, 1) := by decide +kernel
theorem d_Lw_writeDigits_28 : decode b_Lw_writeDigits 28 = .ok (.istore 4, 2) := by decide +kernel
theorem d_Lw_writeDigits_30 : decode b_Lw_writeDigits 30 = .ok (.iload 4, 2) := by decide +kernel
theorem d_Lw_writeDigits_32 : decode b_Lw_writeDigits 32 = .ok (.iload_n 2, 1) := by decide +kernel
theorem d_Lw_writeDigits_33 : decode b_Lw_writeDigits 33 = .ok (.irem, 1) := by decide +kernel
theorem d_Lw_writeDigits_34 : decode b_Lw_writeDigits 34 = .ok (.istore 6, 2) := by decide +kernel
theorem d_Lw_writeDigits_36 : decode b_Lw_writeDigits 36 = .ok (.iload 4, 2) := by decide +kernel
theorem d_Lw_writeDigits_38 : decode b_Lw_writeDigits 38 = .ok (.iload_n 2, 1) := by decide +kernel
theorem d_Lw_writeDigits_39 : decode b_Lw_writeDigits 39 = .ok (.idiv, 1) := by decide +kernel
theorem d_Lw_writeDigits_40 : decode b_Lw_writeDigits 40 = .ok (.istore 4, 2) := by decide +kernel
theorem d_Lw_writeDigits_42 : decode b_Lw_writeDigits 42 = .ok (.aload_n 0, 1) := by decide +kernel
theorem d_Lw_writeDigits_43 : decode b_Lw_writeDigits 43 = .ok (.getfield 42, 3) := by decide +kernel
theorem d_Lw_writeDigits_46 : decode b_Lw_writeDigits 46 = .ok (.iload_n 1, 1) := by decide +kernel
theorem d_Lw_writeDigits_47 : decode b_Lw_writeDigits 47 = .ok (.iconst 1, 1) := by decide +kernel
theorem d_Lw_writeDigits_48 : decode b_Lw_writeDigits 48 = .ok (.isub, 1) := by decide +kernel
theorem d_Lw_writeDigits_49 : decode b_Lw_writeDigits 49 = .ok (.iload 5, 2) := by decide +kernel
theorem d_Lw_writeDigits_51 : decode b_Lw_writeDigits 51 = .ok (.isub, 1) := by decide +kernel
theorem d_Lw_writeDigits_52 : decode b_Lw_writeDigits 52 = .ok (.iload 6, 2) := by decide +kernel
theorem d_Lw_writeDigits_54 : decode b_Lw_writeDigits 54 = .ok (.bipush 10, 2) := by decide +kernel
theorem d_Lw_writeDigits_56 : decode b_Lw_writeDigits 56 = .ok (.if_icmp .ge 11, 3) := by decide +kernel
theorem d_Lw_writeDigits_59 : decode b_Lw_writeDigits 59 = .ok (.bipush 48, 2) := by decide +kernel
theorem d_Lw_writeDigits_61 : decode b_Lw_writeDigits 61 = .ok (.iload 6, 2) := by decide +kernel
theorem d_Lw_writeDigits_63 : decode b_Lw_writeDigits 63 = .ok (.iadd, 1) := by decide +kernel
theorem d_Lw_writeDigits_64 : decode b_Lw_writeDigits 64 = .ok (.goto 11, 3) := by decide +kernel
theorem d_Lw_writeDigits_67 : decode b_Lw_writeDigits 67 = .ok (.bipush 97, 2) := by decide +kernel
theorem d_Lw_writeDigits_69 : decode b_Lw_writeDigits 69 = .ok (.iload 6, 2) := by decide +kernel
theorem d_Lw_writeDigits_71 : decode b_Lw_writeDigits 71 = .ok (.iadd, 1) := by decide +kernel
theorem d_Lw_writeDigits_72 : decode b_Lw_writeDigits 72 = .ok (.bipush 10, 2) := by decide +kernel
theorem d_Lw_writeDigits_74 : decode b_Lw_writeDigits 74 = .ok (.isub, 1) := by decide +kernel
theorem d_Lw_writeDigits_75 : decode b_Lw_writeDigits 75 = .ok (.i2b, 1) := by decide +kernel
theorem d_Lw_writeDigits_76 : decode b_Lw_writeDigits 76 = .ok (.bastore, 1) := by decide +kernel
theorem d_Lw_writeDigits_77 : decode b_Lw_writeDigits 77 = .ok (.iinc 5 1, 3) := by decide +kernel
theorem d_Lw_writeDigits_80 : decode b_Lw_writeDigits 80 = .ok (.goto (-74), 3) := by decide +kernel
theorem d_Lw_writeDigits_83 : decode b_Lw_writeDigits 83 = .ok (.return_, 1) := by decide +kernel
theorem d_Lw_octet_0 : decode b_Lw_octet 0 = .ok (.iload_n 1, 1) := by decide +kernel
theorem d_Lw_octet_1 : decode b_Lw_octet 1 = .ok (.ifCond .lt 11, 3) := by decide +kernel
theorem d_Lw_octet_4 : decode b_Lw_octet 4 = .ok (.iload_n 1, 1) := by decide +kernel
theorem d_Lw_octet_5 : decode b_Lw_octet 5 = .ok (.aload_n 0, 1) := by decide +kernel
theorem d_Lw_octet_6 : decode b_Lw_octet 6 = .ok (.getfield 49, 3) := by decide +kernel
theorem d_Lw_octet_9 : decode b_Lw_octet 9 = .ok (.if_icmp .lt 11, 3) := by decide +kernel
theorem d_Lw_octet_12 : decode b_Lw_octet 12 = .ok (.new 156, 3) := by decide +kernel
theorem d_Lw_octet_15 : decode b_Lw_octet 15 = .ok (.dup, 1) := by decide +kernel
theorem d_Lw_octet_16 : decode b_Lw_octet 16 = .ok (.invokespecial 158, 3) := by decide +kernel
theorem d_Lw_octet_19 : decode b_Lw_octet 19 = .ok (.athrow, 1) := by decide +kernel
theorem d_Lw_octet_20 : decode b_Lw_octet 20 = .ok (.aload_n 0, 1) := by decide +kernel
theorem d_Lw_octet_21 : decode b_Lw_octet 21 = .ok (.getfield 42, 3) := by decide +kernel
theorem d_Lw_octet_24 : decode b_Lw_octet 24 = .ok (.iload_n 1, 1) := by decide +kernel
theorem d_Lw_octet_25 : decode b_Lw_octet 25 = .ok (.baload, 1) := by decide +kernel
theorem d_Lw_octet_26 : decode b_Lw_octet 26 = .ok (.ireturn, 1) := by decide +kernel
end
section
/-! DECODE ROWS of Na (by program) -/
theorem d_Na_init_0 : decode b_Na_init 0 = .ok (.aload_n 0, 1) := by decide +kernel
theorem d_Na_init_1 : decode b_Na_init 1 = .ok (.invokespecial 3, 3) := by decide +kernel
theorem d_Na_init_4 : decode b_Na_init 4 = .ok (.aload_n 0, 1) := by decide +kernel
theorem d_Na_init_5 : decode b_Na_init 5 = .ok (.sipush 6272, 3) := by decide +kernel
theorem d_Na_init_8 : decode b_Na_init 8 = .ok (.newarray .int, 2) := by decide +kernel
theorem d_Na_init_10 : decode b_Na_init 10 = .ok (.putfield 9, 3) := by decide +kernel
theorem d_Na_init_13 : decode b_Na_init 13 = .ok (.aload_n 0, 1) := by decide +kernel
theorem d_Na_init_14 : decode b_Na_init 14 = .ok (.iconst 0, 1) := by decide +kernel
theorem d_Na_init_15 : decode b_Na_init 15 = .ok (.putfield 15, 3) := by decide +kernel
theorem d_Na_init_18 : decode b_Na_init 18 = .ok (.return_, 1) := by decide +kernel
theorem d_Na_putLong_0 : decode b_Na_putLong 0 = .ok (.aload_n 0, 1) := by decide +kernel
theorem d_Na_putLong_1 : decode b_Na_putLong 1 = .ok (.getfield 9, 3) := by decide +kernel
theorem d_Na_putLong_4 : decode b_Na_putLong 4 = .ok (.iconst 0, 1) := by decide +kernel
theorem d_Na_putLong_5 : decode b_Na_putLong 5 = .ok (.lload_n 1, 1) := by decide +kernel
theorem d_Na_putLong_6 : decode b_Na_putLong 6 = .ok (.l2i, 1) := by decide +kernel
theorem d_Na_putLong_7 : decode b_Na_putLong 7 = .ok (.iastore, 1) := by decide +kernel
theorem d_Na_putLong_8 : decode b_Na_putLong 8 = .ok (.aload_n 0, 1) := by decide +kernel
theorem d_Na_putLong_9 : decode b_Na_putLong 9 = .ok (.getfield 9, 3) := by decide +kernel
theorem d_Na_putLong_12 : decode b_Na_putLong 12 = .ok (.iconst 1, 1) := by decide +kernel
theorem d_Na_putLong_13 : decode b_Na_putLong 13 = .ok (.lload_n 1, 1) := by decide +kernel
theorem d_Na_putLong_14 : decode b_Na_putLong 14 = .ok (.bipush 32, 2) := by decide +kernel
theorem d_Na_putLong_16 : decode b_Na_putLong 16 = .ok (.lushr, 1) := by decide +kernel
theorem d_Na_putLong_17 : decode b_Na_putLong 17 = .ok (.l2i, 1) := by decide +kernel
theorem d_Na_putLong_18 : decode b_Na_putLong 18 = .ok (.iastore, 1) := by decide +kernel
theorem d_Na_putLong_19 : decode b_Na_putLong 19 = .ok (.aload_n 0, 1) := by decide +kernel
theorem d_Na_putLong_20 : decode b_Na_putLong 20 = .ok (.iconst 2, 1) := by decide +kernel
theorem d_Na_putLong_21 : decode b_Na_putLong 21 = .ok (.invokevirtual 23, 3) := by decide +kernel
theorem d_Na_putLong_24 : decode b_Na_putLong 24 = .ok (.return_, 1) := by decide +kernel
theorem d_Na_trim_0 : decode b_Na_trim 0 = .ok (.aload_n 0, 1) := by decide +kernel
theorem d_Na_trim_1 : decode b_Na_trim 1 = .ok (.iload_n 1, 1) := by decide +kernel
theorem d_Na_trim_2 : decode b_Na_trim 2 = .ok (.putfield 15, 3) := by decide +kernel
theorem d_Na_trim_5 : decode b_Na_trim 5 = .ok (.aload_n 0, 1) := by decide +kernel
theorem d_Na_trim_6 : decode b_Na_trim 6 = .ok (.getfield 15, 3) := by decide +kernel
theorem d_Na_trim_9 : decode b_Na_trim 9 = .ok (.ifCond .le 30, 3) := by decide +kernel
theorem d_Na_trim_12 : decode b_Na_trim 12 = .ok (.aload_n 0, 1) := by decide +kernel
theorem d_Na_trim_13 : decode b_Na_trim 13 = .ok (.getfield 9, 3) := by decide +kernel
theorem d_Na_trim_16 : decode b_Na_trim 16 = .ok (.aload_n 0, 1) := by decide +kernel
theorem d_Na_trim_17 : decode b_Na_trim 17 = .ok (.getfield 15, 3) := by decide +kernel
theorem d_Na_trim_20 : decode b_Na_trim 20 = .ok (.iconst 1, 1) := by decide +kernel
theorem d_Na_trim_21 : decode b_Na_trim 21 = .ok (.isub, 1) := by decide +kernel
theorem d_Na_trim_22 : decode b_Na_trim 22 = .ok (.iaload, 1) := by decide +kernel
theorem d_Na_trim_23 : decode b_Na_trim 23 = .ok (.ifCond .ne 16, 3) := by decide +kernel
theorem d_Na_trim_26 : decode b_Na_trim 26 = .ok (.aload_n 0, 1) := by decide +kernel
theorem d_Na_trim_27 : decode b_Na_trim 27 = .ok (.dup, 1) := by decide +kernel
theorem d_Na_trim_28 : decode b_Na_trim 28 = .ok (.getfield 15, 3) := by decide +kernel
theorem d_Na_trim_31 : decode b_Na_trim 31 = .ok (.iconst 1, 1) := by decide +kernel
theorem d_Na_trim_32 : decode b_Na_trim 32 = .ok (.isub, 1) := by decide +kernel
theorem d_Na_trim_33 : decode b_Na_trim 33 = .ok (.putfield 15, 3) := by decide +kernel
theorem d_Na_trim_36 : decode b_Na_trim 36 = .ok (.goto (-31), 3) := by decide +kernel
theorem d_Na_trim_39 : decode b_Na_trim 39 = .ok (.return_, 1) := by decide +kernel
theorem d_Na_countBits_0 : decode b_Na_countBits 0 = .ok (.aload_n 0, 1) := by decide +kernel
theorem d_Na_countBits_1 : decode b_Na_countBits 1 = .ok (.getfield 15, 3) := by decide +kernel
theorem d_Na_countBits_4 : decode b_Na_countBits 4 = .ok (.ifCond .ne 7, 3) := by decide +kernel
theorem d_Na_countBits_7 : decode b_Na_countBits 7 = .ok (.iconst 0, 1) := by decide +kernel
theorem d_Na_countBits_8 : decode b_Na_countBits 8 = .ok (.goto 27, 3) := by decide +kernel
theorem d_Na_countBits_11 : decode b_Na_countBits 11 = .ok (.bipush 32, 2) := by decide +kernel
theorem d_Na_countBits_13 : decode b_Na_countBits 13 = .ok (.aload_n 0, 1) := by decide +kernel
theorem d_Na_countBits_14 : decode b_Na_countBits 14 = .ok (.getfield 15, 3) := by decide +kernel
theorem d_Na_countBits_17 : decode b_Na_countBits 17 = .ok (.iconst 1, 1) := by decide +kernel
theorem d_Na_countBits_18 : decode b_Na_countBits 18 = .ok (.isub, 1) := by decide +kernel
theorem d_Na_countBits_19 : decode b_Na_countBits 19 = .ok (.imul, 1) := by decide +kernel
theorem d_Na_countBits_20 : decode b_Na_countBits 20 = .ok (.aload_n 0, 1) := by decide +kernel
theorem d_Na_countBits_21 : decode b_Na_countBits 21 = .ok (.getfield 9, 3) := by decide +kernel
theorem d_Na_countBits_24 : decode b_Na_countBits 24 = .ok (.aload_n 0, 1) := by decide +kernel
theorem d_Na_countBits_25 : decode b_Na_countBits 25 = .ok (.getfield 15, 3) := by decide +kernel
theorem d_Na_countBits_28 : decode b_Na_countBits 28 = .ok (.iconst 1, 1) := by decide +kernel
theorem d_Na_countBits_29 : decode b_Na_countBits 29 = .ok (.isub, 1) := by decide +kernel
theorem d_Na_countBits_30 : decode b_Na_countBits 30 = .ok (.iaload, 1) := by decide +kernel
theorem d_Na_countBits_31 : decode b_Na_countBits 31 = .ok (.invokestatic 19, 3) := by decide +kernel
theorem d_Na_countBits_34 : decode b_Na_countBits 34 = .ok (.iadd, 1) := by decide +kernel
theorem d_Na_countBits_35 : decode b_Na_countBits 35 = .ok (.ireturn, 1) := by decide +kernel
theorem d_Na_putSame_0 : decode b_Na_putSame 0 = .ok (.aload_n 1, 1) := by decide +kernel
theorem d_Na_putSame_1 : decode b_Na_putSame 1 = .ok (.getfield 9, 3) := by decide +kernel
theorem d_Na_putSame_4 : decode b_Na_putSame 4 = .ok (.iconst 0, 1) := by decide +kernel
theorem d_Na_putSame_5 : decode b_Na_putSame 5 = .ok (.aload_n 0, 1) := by decide +kernel
theorem d_Na_putSame_6 : decode b_Na_putSame 6 = .ok (.getfield 9, 3) := by decide +kernel
theorem d_Na_putSame_9 : decode b_Na_putSame 9 = .ok (.iconst 0, 1) := by decide +kernel
theorem d_Na_putSame_10 : decode b_Na_putSame 10 = .ok (.aload_n 1, 1) := by decide +kernel
theorem d_Na_putSame_11 : decode b_Na_putSame 11 = .ok (.getfield 15, 3) := by decide +kernel
theorem d_Na_putSame_14 : decode b_Na_putSame 14 = .ok (.invokestatic 27, 3) := by decide +kernel
theorem d_Na_putSame_17 : decode b_Na_putSame 17 = .ok (.aload_n 0, 1) := by decide +kernel
theorem d_Na_putSame_18 : decode b_Na_putSame 18 = .ok (.aload_n 1, 1) := by decide +kernel
theorem d_Na_putSame_19 : decode b_Na_putSame 19 = .ok (.getfield 15, 3) := by decide +kernel
theorem d_Na_putSame_22 : decode b_Na_putSame 22 = .ok (.putfield 15, 3) := by decide +kernel
theorem d_Na_putSame_25 : decode b_Na_putSame 25 = .ok (.return_, 1) := by decide +kernel
theorem d_Na_putMoved_0 : decode b_Na_putMoved 0 = .ok (.iload_n 2, 1) := by decide +kernel
theorem d_Na_putMoved_1 : decode b_Na_putMoved 1 = .ok (.ifCond .lt 19, 3) := by decide +kernel
theorem d_Na_putMoved_4 : decode b_Na_putMoved 4 = .ok (.aload_n 0, 1) := by decide +kernel
theorem d_Na_putMoved_5 : decode b_Na_putMoved 5 = .ok (.aload_n 1, 1) := by decide +kernel
theorem d_Na_putMoved_6 : decode b_Na_putMoved 6 = .ok (.iload_n 2, 1) := by decide +kernel
theorem d_Na_putMoved_7 : decode b_Na_putMoved 7 = .ok (.bipush 32, 2) := by decide +kernel
theorem d_Na_putMoved_9 : decode b_Na_putMoved 9 = .ok (.idiv, 1) := by decide +kernel
theorem d_Na_putMoved_10 : decode b_Na_putMoved 10 = .ok (.iload_n 2, 1) := by decide +kernel
theorem d_Na_putMoved_11 : decode b_Na_putMoved 11 = .ok (.bipush 32, 2) := by decide +kernel
theorem d_Na_putMoved_13 : decode b_Na_putMoved 13 = .ok (.irem, 1) := by decide +kernel
theorem d_Na_putMoved_14 : decode b_Na_putMoved 14 = .ok (.invokevirtual 35, 3) := by decide +kernel
theorem d_Na_putMoved_17 : decode b_Na_putMoved 17 = .ok (.goto 18, 3) := by decide +kernel
theorem d_Na_putMoved_20 : decode b_Na_putMoved 20 = .ok (.aload_n 0, 1) := by decide +kernel
theorem d_Na_putMoved_21 : decode b_Na_putMoved 21 = .ok (.aload_n 1, 1) := by decide +kernel
theorem d_Na_putMoved_22 : decode b_Na_putMoved 22 = .ok (.iload_n 2, 1) := by decide +kernel
theorem d_Na_putMoved_23 : decode b_Na_putMoved 23 = .ok (.ineg, 1) := by decide +kernel
theorem d_Na_putMoved_24 : decode b_Na_putMoved 24 = .ok (.bipush 32, 2) := by decide +kernel
theorem d_Na_putMoved_26 : decode b_Na_putMoved 26 = .ok (.idiv, 1) := by decide +kernel
theorem d_Na_putMoved_27 : decode b_Na_putMoved 27 = .ok (.iload_n 2, 1) := by decide +kernel
theorem d_Na_putMoved_28 : decode b_Na_putMoved 28 = .ok (.ineg, 1) := by decide +kernel
theorem d_Na_putMoved_29 : decode b_Na_putMoved 29 = .ok (.bipush 32, 2) := by decide +kernel
theorem d_Na_putMoved_31 : decode b_Na_putMoved 31 = .ok (.irem, 1) := by decide +kernel
theorem d_Na_putMoved_32 : decode b_Na_putMoved 32 = .ok (.invokevirtual 39, 3) := by decide +kernel
theorem d_Na_putMoved_35 : decode b_Na_putMoved 35 = .ok (.return_, 1) := by decide +kernel
theorem d_Na_moveUp_0 : decode b_Na_moveUp 0 = .ok (.aload_n 1, 1) := by decide +kernel
theorem d_Na_moveUp_1 : decode b_Na_moveUp 1 = .ok (.getfield 15, 3) := by decide +kernel
theorem d_Na_moveUp_4 : decode b_Na_moveUp 4 = .ok (.istore 4, 2) := by decide +kernel
theorem d_Na_moveUp_6 : decode b_Na_moveUp 6 = .ok (.iload 4, 2) := by decide +kernel
theorem d_Na_moveUp_8 : decode b_Na_moveUp 8 = .ok (.ifCond .ne 9, 3) := by decide +kernel
theorem d_Na_moveUp_11 : decode b_Na_moveUp 11 = .ok (.aload_n 0, 1) := by decide +kernel
theorem d_Na_moveUp_12 : decode b_Na_moveUp 12 = .ok (.iconst 0, 1) := by decide +kernel
theorem d_Na_moveUp_13 : decode b_Na_moveUp 13 = .ok (.putfield 15, 3) := by decide +kernel
theorem d_Na_moveUp_16 : decode b_Na_moveUp 16 = .ok (.return_, 1) := by decide +kernel
theorem d_Na_moveUp_17 : decode b_Na_moveUp 17 = .ok (.iconst 0, 1) := by decide +kernel
theorem d_Na_moveUp_18 : decode b_Na_moveUp 18 = .ok (.istore 5, 2) := by decide +kernel
theorem d_Na_moveUp_20 : decode b_Na_moveUp 20 = .ok (.iload 4, 2) := by decide +kernel
theorem d_Na_moveUp_22 : decode b_Na_moveUp 22 = .ok (.iconst 1, 1) := by decide +kernel
theorem d_Na_moveUp_23 : decode b_Na_moveUp 23 = .ok (.isub, 1) := by decide +kernel
theorem d_Na_moveUp_24 : decode b_Na_moveUp 24 = .ok (.istore 6, 2) := by decide +kernel
theorem d_Na_moveUp_26 : decode b_Na_moveUp 26 = .ok (.iload 6, 2) := by decide +kernel
theorem d_Na_moveUp_28 : decode b_Na_moveUp 28 = .ok (.ifCond .lt 54, 3) := by decide +kernel
theorem d_Na_moveUp_31 : decode b_Na_moveUp 31 = .ok (.aload_n 1, 1) := by decide +kernel
theorem d_Na_moveUp_32 : decode b_Na_moveUp 32 = .ok (.getfield 9, 3) := by decide +kernel
theorem d_Na_moveUp_35 : decode b_Na_moveUp 35 = .ok (.iload 6, 2) := by decide +kernel
theorem d_Na_moveUp_37 : decode b_Na_moveUp 37 = .ok (.iaload, 1) := by decide +kernel
theorem d_Na_moveUp_38 : decode b_Na_moveUp 38 = .ok (.istore 7, 2) := by decide +kernel
theorem d_Na_moveUp_40 : decode b_Na_moveUp 40 = .ok (.aload_n 0, 1) := by decide +kernel
theorem d_Na_moveUp_41 : decode b_Na_moveUp 41 = .ok (.getfield 9, 3) := by decide +kernel
theorem d_Na_moveUp_44 : decode b_Na_moveUp 44 = .ok (.iload 6, 2) := by decide +kernel
theorem d_Na_moveUp_46 : decode b_Na_moveUp 46 = .ok (.iload_n 2, 1) := by decide +kernel
theorem d_Na_moveUp_47 : decode b_Na_moveUp 47 = .ok (.iadd, 1) := by decide +kernel
theorem d_Na_moveUp_48 : decode b_Na_moveUp 48 = .ok (.iconst 1, 1) := by decide +kernel
theorem d_Na_moveUp_49 : decode b_Na_moveUp 49 = .ok (.iadd, 1) := by decide +kernel
theorem d_Na_moveUp_50 : decode b_Na_moveUp 50 = .ok (.iload_n 3, 1) := by decide +kernel
theorem d_Na_moveUp_51 : decode b_Na_moveUp 51 = .ok (.ifCond .ne 8, 3) := by decide +kernel
theorem d_Na_moveUp_54 : decode b_Na_moveUp 54 = .ok (.iload 5, 2) := by decide +kernel
theorem d_Na_moveUp_56 : decode b_Na_moveUp 56 = .ok (.goto 15, 3) := by decide +kernel
theorem d_Na_moveUp_59 : decode b_Na_moveUp 59 = .ok (.iload 5, 2) := by decide +kernel
theorem d_Na_moveUp_61 : decode b_Na_moveUp 61 = .ok (.iload_n 3, 1) := by decide +kernel
theorem d_Na_moveUp_62 : decode b_Na_moveUp 62 = .ok (.ishl, 1) := by decide +kernel
theorem d_Na_moveUp_63 : decode b_Na_moveUp 63 = .ok (.iload 7, 2) := by decide +kernel
theorem d_Na_moveUp_65 : decode b_Na_moveUp 65 = .ok (.bipush 32, 2) := by decide +kernel
theorem d_Na_moveUp_67 : decode b_Na_moveUp 67 = .ok (.iload_n 3, 1) := by decide +kernel
theorem d_Na_moveUp_68 : decode b_Na_moveUp 68 = .ok (.isub, 1) := by decide +kernel
theorem d_Na_moveUp_69 : decode b_Na_moveUp 69 = .ok (.iushr, 1) := by decide +kernel
theorem d_Na_moveUp_70 : decode b_Na_moveUp 70 = .ok (.ior, 1) := by decide +kernel
theorem d_Na_moveUp_71 : decode b_Na_moveUp 71 = .ok (.iastore, 1) := by decide +kernel
theorem d_Na_moveUp_72 : decode b_Na_moveUp 72 = .ok (.iload 7, 2) := by decide +kernel
theorem d_Na_moveUp_74 : decode b_Na_moveUp 74 = .ok (.istore 5, 2) := by decide +kernel
theorem d_Na_moveUp_76 : decode b_Na_moveUp 76 = .ok (.iinc 6 (-1), 3) := by decide +kernel
theorem d_Na_moveUp_79 : decode b_Na_moveUp 79 = .ok (.goto (-53), 3) := by decide +kernel
theorem d_Na_moveUp_82 : decode b_Na_moveUp 82 = .ok (.aload_n 0, 1) := by decide +kernel
theorem d_Na_moveUp_83 : decode b_Na_moveUp 83 = .ok (.getfield 9, 3) := by decide +kernel
theorem d_Na_moveUp_86 : decode b_Na_moveUp 86 = .ok (.iload_n 2, 1) := by decide +kernel
theorem d_Na_moveUp_87 : decode b_Na_moveUp 87 = .ok (.iload 5, 2) := by decide +kernel
theorem d_Na_moveUp_89 : decode b_Na_moveUp 89 = .ok (.iload_n 3, 1) := by decide +kernel
theorem d_Na_moveUp_90 : decode b_Na_moveUp 90 = .ok (.ishl, 1) := by decide +kernel
theorem d_Na_moveUp_91 : decode b_Na_moveUp 91 = .ok (.iastore, 1) := by decide +kernel
theorem d_Na_moveUp_92 : decode b_Na_moveUp 92 = .ok (.aload_n 0, 1) := by decide +kernel
theorem d_Na_moveUp_93 : decode b_Na_moveUp 93 = .ok (.getfield 9, 3) := by decide +kernel
theorem d_Na_moveUp_96 : decode b_Na_moveUp 96 = .ok (.iconst 0, 1) := by decide +kernel
theorem d_Na_moveUp_97 : decode b_Na_moveUp 97 = .ok (.iload_n 2, 1) := by decide +kernel
theorem d_Na_moveUp_98 : decode b_Na_moveUp 98 = .ok (.iconst 0, 1) := by decide +kernel
theorem d_Na_moveUp_99 : decode b_Na_moveUp 99 = .ok (.invokestatic 42, 3) := by decide +kernel
theorem d_Na_moveUp_102 : decode b_Na_moveUp 102 = .ok (.aload_n 0, 1) := by decide +kernel
theorem d_Na_moveUp_103 : decode b_Na_moveUp 103 = .ok (.iload 4, 2) := by decide +kernel
theorem d_Na_moveUp_105 : decode b_Na_moveUp 105 = .ok (.iload_n 2, 1) := by decide +kernel
theorem d_Na_moveUp_106 : decode b_Na_moveUp 106 = .ok (.iadd, 1) := by decide +kernel
theorem d_Na_moveUp_107 : decode b_Na_moveUp 107 = .ok (.iconst 1, 1) := by decide +kernel
theorem d_Na_moveUp_108 : decode b_Na_moveUp 108 = .ok (.iadd, 1) := by decide +kernel
theorem d_Na_moveUp_109 : decode b_Na_moveUp 109 = .ok (.invokevirtual 23, 3) := by decide +kernel
theorem d_Na_moveUp_112 : decode b_Na_moveUp 112 = .ok (.return_, 1) := by decide +kernel
theorem d_Na_moveDown_0 : decode b_Na_moveDown 0 = .ok (.iconst 0, 1) := by decide +kernel
theorem d_Na_moveDown_1 : decode b_Na_moveDown 1 = .ok (.aload_n 1, 1) := by decide +kernel
theorem d_Na_moveDown_2 : decode b_Na_moveDown 2 = .ok (.getfield 15, 3) := by decide +kernel
theorem d_Na_moveDown_5 : decode b_Na_moveDown 5 = .ok (.iload_n 2, 1) := by decide +kernel
theorem d_Na_moveDown_6 : decode b_Na_moveDown 6 = .ok (.isub, 1) := by decide +kernel
theorem d_Na_moveDown_7 : decode b_Na_moveDown 7 = .ok (.invokestatic 48, 3) := by decide +kernel
theorem d_Na_moveDown_10 : decode b_Na_moveDown 10 = .ok (.istore 4, 2) := by decide +kernel
theorem d_Na_moveDown_12 : decode b_Na_moveDown 12 = .ok (.iconst 0, 1) := by decide +kernel
theorem d_Na_moveDown_13 : decode b_Na_moveDown 13 = .ok (.istore 5, 2) := by decide +kernel
theorem d_Na_moveDown_15 : decode b_Na_moveDown 15 = .ok (.iload 5, 2) := by decide +kernel
theorem d_Na_moveDown_17 : decode b_Na_moveDown 17 = .ok (.iload 4, 2) := by decide +kernel
theorem d_Na_moveDown_19 : decode b_Na_moveDown 19 = .ok (.if_icmp .ge 74, 3) := by decide +kernel
theorem d_Na_moveDown_22 : decode b_Na_moveDown 22 = .ok (.aload_n 1, 1) := by decide +kernel
theorem d_Na_moveDown_23 : decode b_Na_moveDown 23 = .ok (.getfield 9, 3) := by decide +kernel
theorem d_Na_moveDown_26 : decode b_Na_moveDown 26 = .ok (.iload 5, 2) := by decide +kernel
theorem d_Na_moveDown_28 : decode b_Na_moveDown 28 = .ok (.iload_n 2, 1) := by decide +kernel
theorem d_Na_moveDown_29 : decode b_Na_moveDown 29 = .ok (.iadd, 1) := by decide +kernel
theorem d_Na_moveDown_30 : decode b_Na_moveDown 30 = .ok (.iaload, 1) := by decide +kernel
theorem d_Na_moveDown_31 : decode b_Na_moveDown 31 = .ok (.istore 6, 2) := by decide +kernel
theorem d_Na_moveDown_33 : decode b_Na_moveDown 33 = .ok (.iload 5, 2) := by decide +kernel
theorem d_Na_moveDown_35 : decode b_Na_moveDown 35 = .ok (.iconst 1, 1) := by decide +kernel
theorem d_Na_moveDown_36 : decode b_Na_moveDown 36 = .ok (.iadd, 1) := by decide +kernel
theorem d_Na_moveDown_37 : decode b_Na_moveDown 37 = .ok (.iload 4, 2) := by decide +kernel
theorem d_Na_moveDown_39 : decode b_Na_moveDown 39 = .ok (.if_icmp .ge 17, 3) := by decide +kernel
theorem d_Na_moveDown_42 : decode b_Na_moveDown 42 = .ok (.aload_n 1, 1) := by decide +kernel
theorem d_Na_moveDown_43 : decode b_Na_moveDown 43 = .ok (.getfield 9, 3) := by decide +kernel
theorem d_Na_moveDown_46 : decode b_Na_moveDown 46 = .ok (.iload 5, 2) := by decide +kernel
theorem d_Na_moveDown_48 : decode b_Na_moveDown 48 = .ok (.iload_n 2, 1) := by decide +kernel
theorem d_Na_moveDown_49 : decode b_Na_moveDown 49 = .ok (.iadd, 1) := by decide +kernel
theorem d_Na_moveDown_50 : decode b_Na_moveDown 50 = .ok (.iconst 1, 1) := by decide +kernel
theorem d_Na_moveDown_51 : decode b_Na_moveDown 51 = .ok (.iadd, 1) := by decide +kernel
theorem d_Na_moveDown_52 : decode b_Na_moveDown 52 = .ok (.iaload, 1) := by decide +kernel
theorem d_Na_moveDown_53 : decode b_Na_moveDown 53 = .ok (.goto 4, 3) := by decide +kernel
theorem d_Na_moveDown_56 : decode b_Na_moveDown 56 = .ok (.iconst 0, 1) := by decide +kernel
theorem d_Na_moveDown_57 : decode b_Na_moveDown 57 = .ok (.istore 7, 2) := by decide +kernel
theorem d_Na_moveDown_59 : decode b_Na_moveDown 59 = .ok (.aload_n 0, 1) := by decide +kernel
theorem d_Na_moveDown_60 : decode b_Na_moveDown 60 = .ok (.getfield 9, 3) := by decide +kernel
theorem d_Na_moveDown_63 : decode b_Na_moveDown 63 = .ok (.iload 5, 2) := by decide +kernel
theorem d_Na_moveDown_65 : decode b_Na_moveDown 65 = .ok (.iload_n 3, 1) := by decide +kernel
theorem d_Na_moveDown_66 : decode b_Na_moveDown 66 = .ok (.ifCond .ne 8, 3) := by decide +kernel
theorem d_Na_moveDown_69 : decode b_Na_moveDown 69 = .ok (.iload 6, 2) := by decide +kernel
theorem d_Na_moveDown_71 : decode b_Na_moveDown 71 = .ok (.goto 15, 3) := by decide +kernel
theorem d_Na_moveDown_74 : decode b_Na_moveDown 74 = .ok (.iload 6, 2) := by decide +kernel
theorem d_Na_moveDown_76 : decode b_Na_moveDown 76 = .ok (.iload_n 3, 1) := by decide +kernel
theorem d_Na_moveDown_77 : decode b_Na_moveDown 77 = .ok (.iushr, 1) := by decide +kernel
theorem d_Na_moveDown_78 : decode b_Na_moveDown 78 = .ok (.iload 7, 2) := by decide +kernel
theorem d_Na_moveDown_80 : decode b_Na_moveDown 80 = .ok (.bipush 32, 2) := by decide +kernel
theorem d_Na_moveDown_82 : decode b_Na_moveDown 82 = .ok (.iload_n 3, 1) := by decide +kernel
theorem d_Na_moveDown_83 : decode b_Na_moveDown 83 = .ok (.isub, 1) := by decide +kernel
theorem d_Na_moveDown_84 : decode b_Na_moveDown 84 = .ok (.ishl, 1) := by decide +kernel
theorem d_Na_moveDown_85 : decode b_Na_moveDown 85 = .ok (.ior, 1) := by decide +kernel
theorem d_Na_moveDown_86 : decode b_Na_moveDown 86 = .ok (.iastore, 1) := by decide +kernel
theorem d_Na_moveDown_87 : decode b_Na_moveDown 87 = .ok (.iinc 5 1, 3) := by decide +kernel
theorem d_Na_moveDown_90 : decode b_Na_moveDown 90 = .ok (.goto (-75), 3) := by decide +kernel
theorem d_Na_moveDown_93 : decode b_Na_moveDown 93 = .ok (.aload_n 0, 1) := by decide +kernel
theorem d_Na_moveDown_94 : decode b_Na_moveDown 94 = .ok (.iload 4, 2) := by decide +kernel
theorem d_Na_moveDown_96 : decode b_Na_moveDown 96 = .ok (.invokevirtual 23, 3) := by decide +kernel
theorem d_Na_moveDown_99 : decode b_Na_moveDown 99 = .ok (.return_, 1) := by decide +kernel
theorem d_Na_putSum_0 : decode b_Na_putSum 0 = .ok (.aload_n 1, 1) := by decide +kernel
theorem d_Na_putSum_1 : decode b_Na_putSum 1 = .ok (.getfield 15, 3) := by decide +kernel
theorem d_Na_putSum_4 : decode b_Na_putSum 4 = .ok (.aload_n 2, 1) := by decide +kernel
theorem d_Na_putSum_5 : decode b_Na_putSum 5 = .ok (.getfield 15, 3) := by decide +kernel
theorem d_Na_putSum_8 : decode b_Na_putSum 8 = .ok (.if_icmp .lt 7, 3) := by decide +kernel
theorem d_Na_putSum_11 : decode b_Na_putSum 11 = .ok (.aload_n 1, 1) := by decide +kernel
theorem d_Na_putSum_12 : decode b_Na_putSum 12 = .ok (.goto 4, 3) := by decide +kernel
theorem d_Na_putSum_15 : decode b_Na_putSum 15 = .ok (.aload_n 2, 1) := by decide +kernel
theorem d_Na_putSum_16 : decode b_Na_putSum 16 = .ok (.astore_n 3, 1) := by decide +kernel
theorem d_Na_putSum_17 : decode b_Na_putSum 17 = .ok (.aload_n 1, 1) := by decide +kernel
theorem d_Na_putSum_18 : decode b_Na_putSum 18 = .ok (.getfield 15, 3) := by decide +kernel
theorem d_Na_putSum_21 : decode b_Na_putSum 21 = .ok (.aload_n 2, 1) := by decide +kernel
theorem d_Na_putSum_22 : decode b_Na_putSum 22 = .ok (.getfield 15, 3) := by decide +kernel
theorem d_Na_putSum_25 : decode b_Na_putSum 25 = .ok (.if_icmp .lt 7, 3) := by decide +kernel
theorem d_Na_putSum_28 : decode b_Na_putSum 28 = .ok (.aload_n 2, 1) := by decide +kernel
theorem d_Na_putSum_29 : decode b_Na_putSum 29 = .ok (.goto 4, 3) := by decide +kernel
theorem d_Na_putSum_32 : decode b_Na_putSum 32 = .ok (.aload_n 1, 1) := by decide +kernel
theorem d_Na_putSum_33 : decode b_Na_putSum 33 = .ok (.astore 4, 2) := by decide +kernel
theorem d_Na_putSum_35 : decode b_Na_putSum 35 = .ok (.aload_n 3, 1) := by decide +kernel
theorem d_Na_putSum_36 : decode b_Na_putSum 36 = .ok (.getfield 15, 3) := by decide +kernel
theorem d_Na_putSum_39 : decode b_Na_putSum 39 = .ok (.istore 5, 2) := by decide +kernel
theorem d_Na_putSum_41 : decode b_Na_putSum 41 = .ok (.aload 4, 2) := by decide +kernel
theorem d_Na_putSum_43 : decode b_Na_putSum 43 = .ok (.getfield 15, 3) := by decide +kernel
theorem d_Na_putSum_46 : decode b_Na_putSum 46 = .ok (.istore 6, 2) := by decide +kernel
theorem d_Na_putSum_48 : decode b_Na_putSum 48 = .ok (.lconst 0, 1) := by decide +kernel
theorem d_Na_putSum_49 : decode b_Na_putSum 49 = .ok (.lstore 7, 2) := by decide +kernel
theorem d_Na_putSum_51 : decode b_Na_putSum 51 = .ok (.iconst 0, 1) := by decide +kernel
theorem d_Na_putSum_52 : decode b_Na_putSum 52 = .ok (.istore 9, 2) := by decide +kernel
theorem d_Na_putSum_54 : decode b_Na_putSum 54 = .ok (.iload 9, 2) := by decide +kernel
theorem d_Na_putSum_56 : decode b_Na_putSum 56 = .ok (.iload 5, 2) := by decide +kernel
theorem d_Na_putSum_58 : decode b_Na_putSum 58 = .ok (.if_icmp .ge 68, 3) := by decide +kernel
theorem d_Na_putSum_61 : decode b_Na_putSum 61 = .ok (.lload 7, 2) := by decide +kernel
theorem d_Na_putSum_63 : decode b_Na_putSum 63 = .ok (.aload_n 3, 1) := by decide +kernel
theorem d_Na_putSum_64 : decode b_Na_putSum 64 = .ok (.getfield 9, 3) := by decide +kernel
theorem d_Na_putSum_67 : decode b_Na_putSum 67 = .ok (.iload 9, 2) := by decide +kernel
theorem d_Na_putSum_69 : decode b_Na_putSum 69 = .ok (.iaload, 1) := by decide +kernel
theorem d_Na_putSum_70 : decode b_Na_putSum 70 = .ok (.i2l, 1) := by decide +kernel
theorem d_Na_putSum_71 : decode b_Na_putSum 71 = .ok (.ldc2_w 33, 3) := by decide +kernel
theorem d_Na_putSum_74 : decode b_Na_putSum 74 = .ok (.land, 1) := by decide +kernel
theorem d_Na_putSum_75 : decode b_Na_putSum 75 = .ok (.iload 9, 2) := by decide +kernel
theorem d_Na_putSum_77 : decode b_Na_putSum 77 = .ok (.iload 6, 2) := by decide +kernel
theorem d_Na_putSum_79 : decode b_Na_putSum 79 = .ok (.if_icmp .ge 19, 3) := by decide +kernel
theorem d_Na_putSum_82 : decode b_Na_putSum 82 = .ok (.aload 4, 2) := by decide +kernel
theorem d_Na_putSum_84 : decode b_Na_putSum 84 = .ok (.getfield 9, 3) := by decide +kernel
theorem d_Na_putSum_87 : decode b_Na_putSum 87 = .ok (.iload 9, 2) := by decide +kernel
theorem d_Na_putSum_89 : decode b_Na_putSum 89 = .ok (.iaload, 1) := by decide +kernel
theorem d_Na_putSum_90 : decode b_Na_putSum 90 = .ok (.i2l, 1) := by decide +kernel
theorem d_Na_putSum_91 : decode b_Na_putSum 91 = .ok (.ldc2_w 33, 3) := by decide +kernel
theorem d_Na_putSum_94 : decode b_Na_putSum 94 = .ok (.land, 1) := by decide +kernel
theorem d_Na_putSum_95 : decode b_Na_putSum 95 = .ok (.goto 4, 3) := by decide +kernel
theorem d_Na_putSum_98 : decode b_Na_putSum 98 = .ok (.lconst 0, 1) := by decide +kernel
theorem d_Na_putSum_99 : decode b_Na_putSum 99 = .ok (.ladd, 1) := by decide +kernel
theorem d_Na_putSum_100 : decode b_Na_putSum 100 = .ok (.ladd, 1) := by decide +kernel
theorem d_Na_putSum_101 : decode b_Na_putSum 101 = .ok (.lstore 7, 2) := by decide +kernel
theorem d_Na_putSum_103 : decode b_Na_putSum 103 = .ok (.aload_n 0, 1) := by decide +kernel
theorem d_Na_putSum_104 : decode b_Na_putSum 104 = .ok (.getfield 9, 3) := by decide +kernel
theorem d_Na_putSum_107 : decode b_Na_putSum 107 = .ok (.iload 9, 2) := by decide +kernel
theorem d_Na_putSum_109 : decode b_Na_putSum 109 = .ok (.lload 7, 2) := by decide +kernel
theorem d_Na_putSum_111 : decode b_Na_putSum 111 = .ok (.l2i, 1) := by decide +kernel
theorem d_Na_putSum_112 : decode b_Na_putSum 112 = .ok (.iastore, 1) := by decide +kernel
theorem d_Na_putSum_113 : decode b_Na_putSum 113 = .ok (.lload 7, 2) := by decide +kernel
theorem d_Na_putSum_115 : decode b_Na_putSum 115 = .ok (.bipush 32, 2) := by decide +kernel
theorem d_Na_putSum_117 : decode b_Na_putSum 117 = .ok (.lushr, 1) := by decide +kernel
theorem d_Na_putSum_118 : decode b_Na_putSum 118 = .ok (.lstore 7, 2) := by decide +kernel
theorem d_Na_putSum_120 : decode b_Na_putSum 120 = .ok (.iinc 9 1, 3) := by decide +kernel
theorem d_Na_putSum_123 : decode b_Na_putSum 123 = .ok (.goto (-69), 3) := by decide +kernel
theorem d_Na_putSum_126 : decode b_Na_putSum 126 = .ok (.aload_n 0, 1) := by decide +kernel
theorem d_Na_putSum_127 : decode b_Na_putSum 127 = .ok (.getfield 9, 3) := by decide +kernel
theorem d_Na_putSum_130 : decode b_Na_putSum 130 = .ok (.iload 5, 2) := by decide +kernel
theorem d_Na_putSum_132 : decode b_Na_putSum 132 = .ok (.lload 7, 2) := by decide +kernel
theorem d_Na_putSum_134 : decode b_Na_putSum 134 = .ok (.l2i, 1) := by decide +kernel
theorem d_Na_putSum_135 : decode b_Na_putSum 135 = .ok (.iastore, 1) := by decide +kernel
theorem d_Na_putSum_136 : decode b_Na_putSum 136 = .ok (.aload_n 0, 1) := by decide +kernel
theorem d_Na_putSum_137 : decode b_Na_putSum 137 = .ok (.iload 5, 2) := by decide +kernel
theorem d_Na_putSum_139 : decode b_Na_putSum 139 = .ok (.iconst 1, 1) := by decide +kernel
theorem d_Na_putSum_140 : decode b_Na_putSum 140 = .ok (.iadd, 1) := by decide +kernel
theorem d_Na_putSum_141 : decode b_Na_putSum 141 = .ok (.invokevirtual 23, 3) := by decide +kernel
theorem d_Na_putSum_144 : decode b_Na_putSum 144 = .ok (.return_, 1) := by decide +kernel
theorem d_Na_order_0 : decode b_Na_order 0 = .ok (.aload_n 0, 1) := by decide +kernel
theorem d_Na_order_1 : decode b_Na_order 1 = .ok (.getfield 15, 3) := by decide +kernel
theorem d_Na_order_4 : decode b_Na_order 4 = .ok (.aload_n 1, 1) := by decide +kernel
theorem d_Na_order_5 : decode b_Na_order 5 = .ok (.getfield 15, 3) := by decide +kernel
theorem d_Na_order_8 : decode b_Na_order 8 = .ok (.if_icmp .eq 20, 3) := by decide +kernel
theorem d_Na_order_11 : decode b_Na_order 11 = .ok (.aload_n 0, 1) := by decide +kernel
theorem d_Na_order_12 : decode b_Na_order 12 = .ok (.getfield 15, 3) := by decide +kernel
theorem d_Na_order_15 : decode b_Na_order 15 = .ok (.aload_n 1, 1) := by decide +kernel
theorem d_Na_order_16 : decode b_Na_order 16 = .ok (.getfield 15, 3) := by decide +kernel
theorem d_Na_order_19 : decode b_Na_order 19 = .ok (.if_icmp .ge 7, 3) := by decide +kernel
theorem d_Na_order_22 : decode b_Na_order 22 = .ok (.iconst (-1), 1) := by decide +kernel
theorem d_Na_order_23 : decode b_Na_order 23 = .ok (.goto 4, 3) := by decide +kernel
theorem d_Na_order_26 : decode b_Na_order 26 = .ok (.iconst 1, 1) := by decide +kernel
theorem d_Na_order_27 : decode b_Na_order 27 = .ok (.ireturn, 1) := by decide +kernel
theorem d_Na_order_28 : decode b_Na_order 28 = .ok (.aload_n 0, 1) := by decide +kernel
theorem d_Na_order_29 : decode b_Na_order 29 = .ok (.getfield 15, 3) := by decide +kernel
theorem d_Na_order_32 : decode b_Na_order 32 = .ok (.iconst 1, 1) := by decide +kernel
theorem d_Na_order_33 : decode b_Na_order 33 = .ok (.isub, 1) := by decide +kernel
theorem d_Na_order_34 : decode b_Na_order 34 = .ok (.istore_n 2, 1) := by decide +kernel
theorem d_Na_order_35 : decode b_Na_order 35 = .ok (.iload_n 2, 1) := by decide +kernel
theorem d_Na_order_36 : decode b_Na_order 36 = .ok (.ifCond .lt 56, 3) := by decide +kernel
theorem d_Na_order_39 : decode b_Na_order 39 = .ok (.aload_n 0, 1) := by decide +kernel
theorem d_Na_order_40 : decode b_Na_order 40 = .ok (.getfield 9, 3) := by decide +kernel
theorem d_Na_order_43 : decode b_Na_order 43 = .ok (.iload_n 2, 1) := by decide +kernel
theorem d_Na_order_44 : decode b_Na_order 44 = .ok (.iaload, 1) := by decide +kernel
theorem d_Na_order_45 : decode b_Na_order 45 = .ok (.aload_n 1, 1) := by decide +kernel
theorem d_Na_order_46 : decode b_Na_order 46 = .ok (.getfield 9, 3) := by decide +kernel
theorem d_Na_order_49 : decode b_Na_order 49 = .ok (.iload_n 2, 1) := by decide +kernel
theorem d_Na_order_50 : decode b_Na_order 50 = .ok (.iaload, 1) := by decide +kernel
theorem d_Na_order_51 : decode b_Na_order 51 = .ok (.if_icmp .eq 35, 3) := by decide +kernel
theorem d_Na_order_54 : decode b_Na_order 54 = .ok (.aload_n 0, 1) := by decide +kernel
theorem d_Na_order_55 : decode b_Na_order 55 = .ok (.getfield 9, 3) := by decide +kernel
theorem d_Na_order_58 : decode b_Na_order 58 = .ok (.iload_n 2, 1) := by decide +kernel
theorem d_Na_order_59 : decode b_Na_order 59 = .ok (.iaload, 1) := by decide +kernel
theorem d_Na_order_60 : decode b_Na_order 60 = .ok (.i2l, 1) := by decide +kernel
theorem d_Na_order_61 : decode b_Na_order 61 = .ok (.ldc2_w 33, 3) := by decide +kernel
theorem d_Na_order_64 : decode b_Na_order 64 = .ok (.land, 1) := by decide +kernel
theorem d_Na_order_65 : decode b_Na_order 65 = .ok (.aload_n 1, 1) := by decide +kernel
theorem d_Na_order_66 : decode b_Na_order 66 = .ok (.getfield 9, 3) := by decide +kernel
theorem d_Na_order_69 : decode b_Na_order 69 = .ok (.iload_n 2, 1) := by decide +kernel
theorem d_Na_order_70 : decode b_Na_order 70 = .ok (.iaload, 1) := by decide +kernel
theorem d_Na_order_71 : decode b_Na_order 71 = .ok (.i2l, 1) := by decide +kernel
theorem d_Na_order_72 : decode b_Na_order 72 = .ok (.ldc2_w 33, 3) := by decide +kernel
theorem d_Na_order_75 : decode b_Na_order 75 = .ok (.land, 1) := by decide +kernel
theorem d_Na_order_76 : decode b_Na_order 76 = .ok (.lcmp, 1) := by decide +kernel
theorem d_Na_order_77 : decode b_Na_order 77 = .ok (.ifCond .ge 7, 3) := by decide +kernel
theorem d_Na_order_80 : decode b_Na_order 80 = .ok (.iconst (-1), 1) := by decide +kernel
theorem d_Na_order_81 : decode b_Na_order 81 = .ok (.goto 4, 3) := by decide +kernel
theorem d_Na_order_84 : decode b_Na_order 84 = .ok (.iconst 1, 1) := by decide +kernel
theorem d_Na_order_85 : decode b_Na_order 85 = .ok (.ireturn, 1) := by decide +kernel
theorem d_Na_order_86 : decode b_Na_order 86 = .ok (.iinc 2 (-1), 3) := by decide +kernel
theorem d_Na_order_89 : decode b_Na_order 89 = .ok (.goto (-54), 3) := by decide +kernel
theorem d_Na_order_92 : decode b_Na_order 92 = .ok (.iconst 0, 1) := by decide +kernel
theorem d_Na_order_93 : decode b_Na_order 93 = .ok (.ireturn, 1) := by decide +kernel
theorem d_Na_putDifference_0 : decode b_Na_putDifference 0 = .ok (.aload_n 1, 1) := by decide +kernel
theorem d_Na_putDifference_1 : decode b_Na_putDifference 1 = .ok (.getfield 15, 3) := by decide +kernel
theorem d_Na_putDifference_4 : decode b_Na_putDifference 4 = .ok (.istore_n 3, 1) := by decide +kernel
theorem d_Na_putDifference_5 : decode b_Na_putDifference 5 = .ok (.aload_n 2, 1) := by decide +kernel
theorem d_Na_putDifference_6 : decode b_Na_putDifference 6 = .ok (.getfield 15, 3) := by decide +kernel
theorem d_Na_putDifference_9 : decode b_Na_putDifference 9 = .ok (.istore 4, 2) := by decide +kernel
theorem d_Na_putDifference_11 : decode b_Na_putDifference 11 = .ok (.lconst 0, 1) := by decide +kernel
theorem d_Na_putDifference_12 : decode b_Na_putDifference 12 = .ok (.lstore 5, 2) := by decide +kernel
theorem d_Na_putDifference_14 : decode b_Na_putDifference 14 = .ok (.iconst 0, 1) := by decide +kernel
theorem d_Na_putDifference_15 : decode b_Na_putDifference 15 = .ok (.istore 7, 2) := by decide +kernel
theorem d_Na_putDifference_17 : decode b_Na_putDifference 17 = .ok (.iload 7, 2) := by decide +kernel
theorem d_Na_putDifference_19 : decode b_Na_putDifference 19 = .ok (.iload_n 3, 1) := by decide +kernel
theorem d_Na_putDifference_20 : decode b_Na_putDifference 20 = .ok (.if_icmp .ge 67, 3) := by decide +kernel
theorem d_Na_putDifference_23 : decode b_Na_putDifference 23 = .ok (.lload 5, 2) := by decide +kernel
theorem d_Na_putDifference_25 : decode b_Na_putDifference 25 = .ok (.aload_n 1, 1) := by decide +kernel
theorem d_Na_putDifference_26 : decode b_Na_putDifference 26 = .ok (.getfield 9, 3) := by decide +kernel
theorem d_Na_putDifference_29 : decode b_Na_putDifference 29 = .ok (.iload 7, 2) := by decide +kernel
theorem d_Na_putDifference_31 : decode b_Na_putDifference 31 = .ok (.iaload, 1) := by decide +kernel
theorem d_Na_putDifference_32 : decode b_Na_putDifference 32 = .ok (.i2l, 1) := by decide +kernel
theorem d_Na_putDifference_33 : decode b_Na_putDifference 33 = .ok (.ldc2_w 33, 3) := by decide +kernel
theorem d_Na_putDifference_36 : decode b_Na_putDifference 36 = .ok (.land, 1) := by decide +kernel
theorem d_Na_putDifference_37 : decode b_Na_putDifference 37 = .ok (.iload 7, 2) := by decide +kernel
theorem d_Na_putDifference_39 : decode b_Na_putDifference 39 = .ok (.iload 4, 2) := by decide +kernel
theorem d_Na_putDifference_41 : decode b_Na_putDifference 41 = .ok (.if_icmp .ge 18, 3) := by decide +kernel
theorem d_Na_putDifference_44 : decode b_Na_putDifference 44 = .ok (.aload_n 2, 1) := by decide +kernel
theorem d_Na_putDifference_45 : decode b_Na_putDifference 45 = .ok (.getfield 9, 3) := by decide +kernel
theorem d_Na_putDifference_48 : decode b_Na_putDifference 48 = .ok (.iload 7, 2) := by decide +kernel
theorem d_Na_putDifference_50 : decode b_Na_putDifference 50 = .ok (.iaload, 1) := by decide +kernel
theorem d_Na_putDifference_51 : decode b_Na_putDifference 51 = .ok (.i2l, 1) := by decide +kernel
theorem d_Na_putDifference_52 : decode b_Na_putDifference 52 = .ok (.ldc2_w 33, 3) := by decide +kernel
theorem d_Na_putDifference_55 : decode b_Na_putDifference 55 = .ok (.land, 1) := by decide +kernel
theorem d_Na_putDifference_56 : decode b_Na_putDifference 56 = .ok (.goto 4, 3) := by decide +kernel
theorem d_Na_putDifference_59 : decode b_Na_putDifference 59 = .ok (.lconst 0, 1) := by decide +kernel
theorem d_Na_putDifference_60 : decode b_Na_putDifference 60 = .ok (.lsub, 1) := by decide +kernel
theorem d_Na_putDifference_61 : decode b_Na_putDifference 61 = .ok (.ladd, 1) := by decide +kernel
theorem d_Na_putDifference_62 : decode b_Na_putDifference 62 = .ok (.lstore 5, 2) := by decide +kernel
theorem d_Na_putDifference_64 : decode b_Na_putDifference 64 = .ok (.aload_n 0, 1) := by decide +kernel
theorem d_Na_putDifference_65 : decode b_Na_putDifference 65 = .ok (.getfield 9, 3) := by decide +kernel
theorem d_Na_putDifference_68 : decode b_Na_putDifference 68 = .ok (.iload 7, 2) := by decide +kernel
theorem d_Na_putDifference_70 : decode b_Na_putDifference 70 = .ok (.lload 5, 2) := by decide +kernel
theorem d_Na_putDifference_72 : decode b_Na_putDifference 72 = .ok (.l2i, 1) := by decide +kernel
theorem d_Na_putDifference_73 : decode b_Na_putDifference 73 = .ok (.iastore, 1) := by decide +kernel
theorem d_Na_putDifference_74 : decode b_Na_putDifference 74 = .ok (.lload 5, 2) := by decide +kernel
theorem d_Na_putDifference_76 : decode b_Na_putDifference 76 = .ok (.bipush 32, 2) := by decide +kernel
theorem d_Na_putDifference_78 : decode b_Na_putDifference 78 = .ok (.lshr, 1) := by decide +kernel
theorem d_Na_putDifference_79 : decode b_Na_putDifference 79 = .ok (.lstore 5, 2) := by decide +kernel
theorem d_Na_putDifference_81 : decode b_Na_putDifference 81 = .ok (.iinc 7 1, 3) := by decide +kernel
theorem d_Na_putDifference_84 : decode b_Na_putDifference 84 = .ok (.goto (-67), 3) := by decide +kernel
theorem d_Na_putDifference_87 : decode b_Na_putDifference 87 = .ok (.aload_n 0, 1) := by decide +kernel
theorem d_Na_putDifference_88 : decode b_Na_putDifference 88 = .ok (.iload_n 3, 1) := by decide +kernel
theorem d_Na_putDifference_89 : decode b_Na_putDifference 89 = .ok (.invokevirtual 23, 3) := by decide +kernel
theorem d_Na_putDifference_92 : decode b_Na_putDifference 92 = .ok (.return_, 1) := by decide +kernel
theorem d_Na_scale_0 : decode b_Na_scale 0 = .ok (.iload_n 2, 1) := by decide +kernel
theorem d_Na_scale_1 : decode b_Na_scale 1 = .ok (.i2l, 1) := by decide +kernel
theorem d_Na_scale_2 : decode b_Na_scale 2 = .ok (.lstore_n 3, 1) := by decide +kernel
theorem d_Na_scale_3 : decode b_Na_scale 3 = .ok (.iconst 0, 1) := by decide +kernel
theorem d_Na_scale_4 : decode b_Na_scale 4 = .ok (.istore 5, 2) := by decide +kernel
theorem d_Na_scale_6 : decode b_Na_scale 6 = .ok (.iload 5, 2) := by decide +kernel
theorem d_Na_scale_8 : decode b_Na_scale 8 = .ok (.aload_n 0, 1) := by decide +kernel
theorem d_Na_scale_9 : decode b_Na_scale 9 = .ok (.getfield 15, 3) := by decide +kernel
theorem d_Na_scale_12 : decode b_Na_scale 12 = .ok (.if_icmp .ge 41, 3) := by decide +kernel
theorem d_Na_scale_15 : decode b_Na_scale 15 = .ok (.lload_n 3, 1) := by decide +kernel
theorem d_Na_scale_16 : decode b_Na_scale 16 = .ok (.aload_n 0, 1) := by decide +kernel
theorem d_Na_scale_17 : decode b_Na_scale 17 = .ok (.getfield 9, 3) := by decide +kernel
theorem d_Na_scale_20 : decode b_Na_scale 20 = .ok (.iload 5, 2) := by decide +kernel
theorem d_Na_scale_22 : decode b_Na_scale 22 = .ok (.iaload, 1) := by decide +kernel
theorem d_Na_scale_23 : decode b_Na_scale 23 = .ok (.i2l, 1) := by decide +kernel
theorem d_Na_scale_24 : decode b_Na_scale 24 = .ok (.ldc2_w 33, 3) := by decide +kernel
theorem d_Na_scale_27 : decode b_Na_scale 27 = .ok (.land, 1) := by decide +kernel
theorem d_Na_scale_28 : decode b_Na_scale 28 = .ok (.iload_n 1, 1) := by decide +kernel
theorem d_Na_scale_29 : decode b_Na_scale 29 = .ok (.i2l, 1) := by decide +kernel
theorem d_Na_scale_30 : decode b_Na_scale 30 = .ok (.lmul, 1) := by decide +kernel
theorem d_Na_scale_31 : decode b_Na_scale 31 = .ok (.ladd, 1) := by decide +kernel
theorem d_Na_scale_32 : decode b_Na_scale 32 = .ok (.lstore_n 3, 1) := by decide +kernel
theorem d_Na_scale_33 : decode b_Na_scale 33 = .ok (.aload_n 0, 1) := by decide +kernel
theorem d_Na_scale_34 : decode b_Na_scale 34 = .ok (.getfield 9, 3) := by decide +kernel
theorem d_Na_scale_37 : decode b_Na_scale 37 = .ok (.iload 5, 2) := by decide +kernel
theorem d_Na_scale_39 : decode b_Na_scale 39 = .ok (.lload_n 3, 1) := by decide +kernel
theorem d_Na_scale_40 : decode b_Na_scale 40 = .ok (.l2i, 1) := by decide +kernel
theorem d_Na_scale_41 : decode b_Na_scale 41 = .ok (.iastore, 1) := by decide +kernel
theorem d_Na_scale_42 : decode b_Na_scale 42 = .ok (.lload_n 3, 1) := by decide +kernel
theorem d_Na_scale_43 : decode b_Na_scale 43 = .ok (.bipush 32, 2) := by decide +kernel
theorem d_Na_scale_45 : decode b_Na_scale 45 = .ok (.lushr, 1) := by decide +kernel
theorem d_Na_scale_46 : decode b_Na_scale 46 = .ok (.lstore_n 3, 1) := by decide +kernel
theorem d_Na_scale_47 : decode b_Na_scale 47 = .ok (.iinc 5 1, 3) := by decide +kernel
theorem d_Na_scale_50 : decode b_Na_scale 50 = .ok (.goto (-44), 3) := by decide +kernel
theorem d_Na_scale_53 : decode b_Na_scale 53 = .ok (.aload_n 0, 1) := by decide +kernel
theorem d_Na_scale_54 : decode b_Na_scale 54 = .ok (.getfield 9, 3) := by decide +kernel
theorem d_Na_scale_57 : decode b_Na_scale 57 = .ok (.aload_n 0, 1) := by decide +kernel
theorem d_Na_scale_58 : decode b_Na_scale 58 = .ok (.getfield 15, 3) := by decide +kernel
theorem d_Na_scale_61 : decode b_Na_scale 61 = .ok (.lload_n 3, 1) := by decide +kernel
theorem d_Na_scale_62 : decode b_Na_scale 62 = .ok (.l2i, 1) := by decide +kernel
theorem d_Na_scale_63 : decode b_Na_scale 63 = .ok (.iastore, 1) := by decide +kernel
theorem d_Na_scale_64 : decode b_Na_scale 64 = .ok (.aload_n 0, 1) := by decide +kernel
theorem d_Na_scale_65 : decode b_Na_scale 65 = .ok (.aload_n 0, 1) := by decide +kernel
theorem d_Na_scale_66 : decode b_Na_scale 66 = .ok (.getfield 15, 3) := by decide +kernel
theorem d_Na_scale_69 : decode b_Na_scale 69 = .ok (.iconst 1, 1) := by decide +kernel
theorem d_Na_scale_70 : decode b_Na_scale 70 = .ok (.iadd, 1) := by decide +kernel
theorem d_Na_scale_71 : decode b_Na_scale 71 = .ok (.invokevirtual 23, 3) := by decide +kernel
theorem d_Na_scale_74 : decode b_Na_scale 74 = .ok (.return_, 1) := by decide +kernel
theorem d_Na_putOnes_0 : decode b_Na_putOnes 0 = .ok (.iload_n 1, 1) := by decide +kernel
theorem d_Na_putOnes_1 : decode b_Na_putOnes 1 = .ok (.bipush 32, 2) := by decide +kernel
theorem d_Na_putOnes_3 : decode b_Na_putOnes 3 = .ok (.idiv, 1) := by decide +kernel
theorem d_Na_putOnes_4 : decode b_Na_putOnes 4 = .ok (.istore_n 2, 1) := by decide +kernel
theorem d_Na_putOnes_5 : decode b_Na_putOnes 5 = .ok (.aload_n 0, 1) := by decide +kernel
theorem d_Na_putOnes_6 : decode b_Na_putOnes 6 = .ok (.getfield 9, 3) := by decide +kernel
theorem d_Na_putOnes_9 : decode b_Na_putOnes 9 = .ok (.iconst 0, 1) := by decide +kernel
theorem d_Na_putOnes_10 : decode b_Na_putOnes 10 = .ok (.iload_n 2, 1) := by decide +kernel
theorem d_Na_putOnes_11 : decode b_Na_putOnes 11 = .ok (.iconst (-1), 1) := by decide +kernel
theorem d_Na_putOnes_12 : decode b_Na_putOnes 12 = .ok (.invokestatic 42, 3) := by decide +kernel
theorem d_Na_putOnes_15 : decode b_Na_putOnes 15 = .ok (.aload_n 0, 1) := by decide +kernel
theorem d_Na_putOnes_16 : decode b_Na_putOnes 16 = .ok (.getfield 9, 3) := by decide +kernel
theorem d_Na_putOnes_19 : decode b_Na_putOnes 19 = .ok (.iload_n 2, 1) := by decide +kernel
theorem d_Na_putOnes_20 : decode b_Na_putOnes 20 = .ok (.iconst 1, 1) := by decide +kernel
theorem d_Na_putOnes_21 : decode b_Na_putOnes 21 = .ok (.iload_n 1, 1) := by decide +kernel
theorem d_Na_putOnes_22 : decode b_Na_putOnes 22 = .ok (.bipush 32, 2) := by decide +kernel
theorem d_Na_putOnes_24 : decode b_Na_putOnes 24 = .ok (.irem, 1) := by decide +kernel
theorem d_Na_putOnes_25 : decode b_Na_putOnes 25 = .ok (.ishl, 1) := by decide +kernel
theorem d_Na_putOnes_26 : decode b_Na_putOnes 26 = .ok (.iconst 1, 1) := by decide +kernel
theorem d_Na_putOnes_27 : decode b_Na_putOnes 27 = .ok (.isub, 1) := by decide +kernel
theorem d_Na_putOnes_28 : decode b_Na_putOnes 28 = .ok (.iastore, 1) := by decide +kernel
theorem d_Na_putOnes_29 : decode b_Na_putOnes 29 = .ok (.aload_n 0, 1) := by decide +kernel
theorem d_Na_putOnes_30 : decode b_Na_putOnes 30 = .ok (.iload_n 2, 1) := by decide +kernel
theorem d_Na_putOnes_31 : decode b_Na_putOnes 31 = .ok (.iconst 1, 1) := by decide +kernel
theorem d_Na_putOnes_32 : decode b_Na_putOnes 32 = .ok (.iadd, 1) := by decide +kernel
theorem d_Na_putOnes_33 : decode b_Na_putOnes 33 = .ok (.invokevirtual 23, 3) := by decide +kernel
theorem d_Na_putOnes_36 : decode b_Na_putOnes 36 = .ok (.return_, 1) := by decide +kernel
theorem d_Na_takeOne_0 : decode b_Na_takeOne 0 = .ok (.iconst 1, 1) := by decide +kernel
theorem d_Na_takeOne_1 : decode b_Na_takeOne 1 = .ok (.istore_n 1, 1) := by decide +kernel
theorem d_Na_takeOne_2 : decode b_Na_takeOne 2 = .ok (.iconst 0, 1) := by decide +kernel
theorem d_Na_takeOne_3 : decode b_Na_takeOne 3 = .ok (.istore_n 2, 1) := by decide +kernel
theorem d_Na_takeOne_4 : decode b_Na_takeOne 4 = .ok (.iload_n 2, 1) := by decide +kernel
theorem d_Na_takeOne_5 : decode b_Na_takeOne 5 = .ok (.aload_n 0, 1) := by decide +kernel
theorem d_Na_takeOne_6 : decode b_Na_takeOne 6 = .ok (.getfield 15, 3) := by decide +kernel
theorem d_Na_takeOne_9 : decode b_Na_takeOne 9 = .ok (.if_icmp .ge 38, 3) := by decide +kernel
theorem d_Na_takeOne_12 : decode b_Na_takeOne 12 = .ok (.iload_n 1, 1) := by decide +kernel
theorem d_Na_takeOne_13 : decode b_Na_takeOne 13 = .ok (.ifCond .eq 34, 3) := by decide +kernel
theorem d_Na_takeOne_16 : decode b_Na_takeOne 16 = .ok (.aload_n 0, 1) := by decide +kernel
theorem d_Na_takeOne_17 : decode b_Na_takeOne 17 = .ok (.getfield 9, 3) := by decide +kernel
theorem d_Na_takeOne_20 : decode b_Na_takeOne 20 = .ok (.iload_n 2, 1) := by decide +kernel
theorem d_Na_takeOne_21 : decode b_Na_takeOne 21 = .ok (.iaload, 1) := by decide +kernel
theorem d_Na_takeOne_22 : decode b_Na_takeOne 22 = .ok (.ifCond .ne 7, 3) := by decide +kernel
theorem d_Na_takeOne_25 : decode b_Na_takeOne 25 = .ok (.iconst 1, 1) := by decide +kernel
theorem d_Na_takeOne_26 : decode b_Na_takeOne 26 = .ok (.goto 4, 3) := by decide +kernel
theorem d_Na_takeOne_29 : decode b_Na_takeOne 29 = .ok (.iconst 0, 1) := by decide +kernel
theorem d_Na_takeOne_30 : decode b_Na_takeOne 30 = .ok (.istore_n 1, 1) := by decide +kernel
theorem d_Na_takeOne_31 : decode b_Na_takeOne 31 = .ok (.aload_n 0, 1) := by decide +kernel
theorem d_Na_takeOne_32 : decode b_Na_takeOne 32 = .ok (.getfield 9, 3) := by decide +kernel
theorem d_Na_takeOne_35 : decode b_Na_takeOne 35 = .ok (.iload_n 2, 1) := by decide +kernel
theorem d_Na_takeOne_36 : decode b_Na_takeOne 36 = .ok (.dup2, 1) := by decide +kernel
theorem d_Na_takeOne_37 : decode b_Na_takeOne 37 = .ok (.iaload, 1) := by decide +kernel
theorem d_Na_takeOne_38 : decode b_Na_takeOne 38 = .ok (.iconst 1, 1) := by decide +kernel
theorem d_Na_takeOne_39 : decode b_Na_takeOne 39 = .ok (.isub, 1) := by decide +kernel
theorem d_Na_takeOne_40 : decode b_Na_takeOne 40 = .ok (.iastore, 1) := by decide +kernel
theorem d_Na_takeOne_41 : decode b_Na_takeOne 41 = .ok (.iinc 2 1, 3) := by decide +kernel
theorem d_Na_takeOne_44 : decode b_Na_takeOne 44 = .ok (.goto (-40), 3) := by decide +kernel
theorem d_Na_takeOne_47 : decode b_Na_takeOne 47 = .ok (.aload_n 0, 1) := by decide +kernel
theorem d_Na_takeOne_48 : decode b_Na_takeOne 48 = .ok (.aload_n 0, 1) := by decide +kernel
theorem d_Na_takeOne_49 : decode b_Na_takeOne 49 = .ok (.getfield 15, 3) := by decide +kernel
theorem d_Na_takeOne_52 : decode b_Na_takeOne 52 = .ok (.invokevirtual 23, 3) := by decide +kernel
theorem d_Na_takeOne_55 : decode b_Na_takeOne 55 = .ok (.return_, 1) := by decide +kernel
theorem d_Na_reduce_0 : decode b_Na_reduce 0 = .ok (.aload_n 0, 1) := by decide +kernel
theorem d_Na_reduce_1 : decode b_Na_reduce 1 = .ok (.getfield 9, 3) := by decide +kernel
theorem d_Na_reduce_4 : decode b_Na_reduce 4 = .ok (.astore_n 2, 1) := by decide +kernel
theorem d_Na_reduce_5 : decode b_Na_reduce 5 = .ok (.lconst 0, 1) := by decide +kernel
theorem d_Na_reduce_6 : decode b_Na_reduce 6 = .ok (.lstore_n 3, 1) := by decide +kernel
theorem d_Na_reduce_7 : decode b_Na_reduce 7 = .ok (.aload_n 0, 1) := by decide +kernel
theorem d_Na_reduce_8 : decode b_Na_reduce 8 = .ok (.getfield 15, 3) := by decide +kernel
theorem d_Na_reduce_11 : decode b_Na_reduce 11 = .ok (.iconst 1, 1) := by decide +kernel
theorem d_Na_reduce_12 : decode b_Na_reduce 12 = .ok (.isub, 1) := by decide +kernel
theorem d_Na_reduce_13 : decode b_Na_reduce 13 = .ok (.istore 5, 2) := by decide +kernel
theorem d_Na_reduce_15 : decode b_Na_reduce 15 = .ok (.iload 5, 2) := by decide +kernel
theorem d_Na_reduce_17 : decode b_Na_reduce 17 = .ok (.ifCond .lt 48, 3) := by decide +kernel
theorem d_Na_reduce_20 : decode b_Na_reduce 20 = .ok (.lload_n 3, 1) := by decide +kernel
theorem d_Na_reduce_21 : decode b_Na_reduce 21 = .ok (.bipush 32, 2) := by decide +kernel
theorem d_Na_reduce_23 : decode b_Na_reduce 23 = .ok (.lshl, 1) := by decide +kernel
theorem d_Na_reduce_24 : decode b_Na_reduce 24 = .ok (.aload_n 2, 1) := by decide +kernel
theorem d_Na_reduce_25 : decode b_Na_reduce 25 = .ok (.iload 5, 2) := by decide +kernel
theorem d_Na_reduce_27 : decode b_Na_reduce 27 = .ok (.iaload, 1) := by decide +kernel
theorem d_Na_reduce_28 : decode b_Na_reduce 28 = .ok (.i2l, 1) := by decide +kernel
theorem d_Na_reduce_29 : decode b_Na_reduce 29 = .ok (.ldc2_w 33, 3) := by decide +kernel
theorem d_Na_reduce_32 : decode b_Na_reduce 32 = .ok (.land, 1) := by decide +kernel
theorem d_Na_reduce_33 : decode b_Na_reduce 33 = .ok (.lor, 1) := by decide +kernel
theorem d_Na_reduce_34 : decode b_Na_reduce 34 = .ok (.lstore 6, 2) := by decide +kernel
theorem d_Na_reduce_36 : decode b_Na_reduce 36 = .ok (.lload 6, 2) := by decide +kernel
theorem d_Na_reduce_38 : decode b_Na_reduce 38 = .ok (.iload_n 1, 1) := by decide +kernel
theorem d_Na_reduce_39 : decode b_Na_reduce 39 = .ok (.i2l, 1) := by decide +kernel
theorem d_Na_reduce_40 : decode b_Na_reduce 40 = .ok (.ldiv, 1) := by decide +kernel
theorem d_Na_reduce_41 : decode b_Na_reduce 41 = .ok (.lstore 8, 2) := by decide +kernel
theorem d_Na_reduce_43 : decode b_Na_reduce 43 = .ok (.aload_n 2, 1) := by decide +kernel
theorem d_Na_reduce_44 : decode b_Na_reduce 44 = .ok (.iload 5, 2) := by decide +kernel
theorem d_Na_reduce_46 : decode b_Na_reduce 46 = .ok (.lload 8, 2) := by decide +kernel
theorem d_Na_reduce_48 : decode b_Na_reduce 48 = .ok (.l2i, 1) := by decide +kernel
theorem d_Na_reduce_49 : decode b_Na_reduce 49 = .ok (.iastore, 1) := by decide +kernel
theorem d_Na_reduce_50 : decode b_Na_reduce 50 = .ok (.lload 6, 2) := by decide +kernel
theorem d_Na_reduce_52 : decode b_Na_reduce 52 = .ok (.lload 8, 2) := by decide +kernel
theorem d_Na_reduce_54 : decode b_Na_reduce 54 = .ok (.iload_n 1, 1) := by decide +kernel
theorem d_Na_reduce_55 : decode b_Na_reduce 55 = .ok (.i2l, 1) := by decide +kernel
theorem d_Na_reduce_56 : decode b_Na_reduce 56 = .ok (.lmul, 1) := by decide +kernel
theorem d_Na_reduce_57 : decode b_Na_reduce 57 = .ok (.lsub, 1) := by decide +kernel
theorem d_Na_reduce_58 : decode b_Na_reduce 58 = .ok (.lstore_n 3, 1) := by decide +kernel
theorem d_Na_reduce_59 : decode b_Na_reduce 59 = .ok (.iinc 5 (-1), 3) := by decide +kernel
theorem d_Na_reduce_62 : decode b_Na_reduce 62 = .ok (.goto (-47), 3) := by decide +kernel
theorem d_Na_reduce_65 : decode b_Na_reduce 65 = .ok (.aload_n 0, 1) := by decide +kernel
theorem d_Na_reduce_66 : decode b_Na_reduce 66 = .ok (.aload_n 0, 1) := by decide +kernel
theorem d_Na_reduce_67 : decode b_Na_reduce 67 = .ok (.getfield 15, 3) := by decide +kernel
theorem d_Na_reduce_70 : decode b_Na_reduce 70 = .ok (.invokevirtual 23, 3) := by decide +kernel
theorem d_Na_reduce_73 : decode b_Na_reduce 73 = .ok (.lload_n 3, 1) := by decide +kernel
theorem d_Na_reduce_74 : decode b_Na_reduce 74 = .ok (.l2i, 1) := by decide +kernel
theorem d_Na_reduce_75 : decode b_Na_reduce 75 = .ok (.ireturn, 1) := by decide +kernel
end
section
/-! DECODE ROWS of Ro (by program) -/
theorem d_Ro_init_0 : decode b_Ro_init 0 = .ok (.aload_n 0, 1) := by decide +kernel
theorem d_Ro_init_1 : decode b_Ro_init 1 = .ok (.invokespecial 1, 3) := by decide +kernel
theorem d_Ro_init_4 : decode b_Ro_init 4 = .ok (.aload_n 0, 1) := by decide +kernel
theorem d_Ro_init_5 : decode b_Ro_init 5 = .ok (.new 7, 3) := by decide +kernel
theorem d_Ro_init_8 : decode b_Ro_init 8 = .ok (.dup, 1) := by decide +kernel
theorem d_Ro_init_9 : decode b_Ro_init 9 = .ok (.invokespecial 9, 3) := by decide +kernel
theorem d_Ro_init_12 : decode b_Ro_init 12 = .ok (.putfield 10, 3) := by decide +kernel
theorem d_Ro_init_15 : decode b_Ro_init 15 = .ok (.aload_n 0, 1) := by decide +kernel
theorem d_Ro_init_16 : decode b_Ro_init 16 = .ok (.new 7, 3) := by decide +kernel
theorem d_Ro_init_19 : decode b_Ro_init 19 = .ok (.dup, 1) := by decide +kernel
theorem d_Ro_init_20 : decode b_Ro_init 20 = .ok (.invokespecial 9, 3) := by decide +kernel
theorem d_Ro_init_23 : decode b_Ro_init 23 = .ok (.putfield 16, 3) := by decide +kernel
theorem d_Ro_init_26 : decode b_Ro_init 26 = .ok (.aload_n 0, 1) := by decide +kernel
theorem d_Ro_init_27 : decode b_Ro_init 27 = .ok (.new 7, 3) := by decide +kernel
theorem d_Ro_init_30 : decode b_Ro_init 30 = .ok (.dup, 1) := by decide +kernel
theorem d_Ro_init_31 : decode b_Ro_init 31 = .ok (.invokespecial 9, 3) := by decide +kernel
theorem d_Ro_init_34 : decode b_Ro_init 34 = .ok (.putfield 19, 3) := by decide +kernel
theorem d_Ro_init_37 : decode b_Ro_init 37 = .ok (.return_, 1) := by decide +kernel
theorem d_Ro_putRoot_0 : decode b_Ro_putRoot 0 = .ok (.aload_n 2, 1) := by decide +kernel
theorem d_Ro_putRoot_1 : decode b_Ro_putRoot 1 = .ok (.invokevirtual 22, 3) := by decide +kernel
theorem d_Ro_putRoot_4 : decode b_Ro_putRoot 4 = .ok (.istore 5, 2) := by decide +kernel
theorem d_Ro_putRoot_6 : decode b_Ro_putRoot 6 = .ok (.iload_n 3, 1) := by decide +kernel
theorem d_Ro_putRoot_7 : decode b_Ro_putRoot 7 = .ok (.iconst 1, 1) := by decide +kernel
theorem d_Ro_putRoot_8 : decode b_Ro_putRoot 8 = .ok (.if_icmp .eq 8, 3) := by decide +kernel
theorem d_Ro_putRoot_11 : decode b_Ro_putRoot 11 = .ok (.iload 5, 2) := by decide +kernel
theorem d_Ro_putRoot_13 : decode b_Ro_putRoot 13 = .ok (.ifCond .ne 9, 3) := by decide +kernel
theorem d_Ro_putRoot_16 : decode b_Ro_putRoot 16 = .ok (.aload_n 1, 1) := by decide +kernel
theorem d_Ro_putRoot_17 : decode b_Ro_putRoot 17 = .ok (.aload_n 2, 1) := by decide +kernel
theorem d_Ro_putRoot_18 : decode b_Ro_putRoot 18 = .ok (.invokevirtual 26, 3) := by decide +kernel
theorem d_Ro_putRoot_21 : decode b_Ro_putRoot 21 = .ok (.return_, 1) := by decide +kernel
theorem d_Ro_putRoot_22 : decode b_Ro_putRoot 22 = .ok (.iload 5, 2) := by decide +kernel
theorem d_Ro_putRoot_24 : decode b_Ro_putRoot 24 = .ok (.iload_n 3, 1) := by decide +kernel
theorem d_Ro_putRoot_25 : decode b_Ro_putRoot 25 = .ok (.iadd, 1) := by decide +kernel
theorem d_Ro_putRoot_26 : decode b_Ro_putRoot 26 = .ok (.iconst 1, 1) := by decide +kernel
theorem d_Ro_putRoot_27 : decode b_Ro_putRoot 27 = .ok (.isub, 1) := by decide +kernel
theorem d_Ro_putRoot_28 : decode b_Ro_putRoot 28 = .ok (.iload_n 3, 1) := by decide +kernel
theorem d_Ro_putRoot_29 : decode b_Ro_putRoot 29 = .ok (.idiv, 1) := by decide +kernel
theorem d_Ro_putRoot_30 : decode b_Ro_putRoot 30 = .ok (.istore 6, 2) := by decide +kernel
theorem d_Ro_putRoot_32 : decode b_Ro_putRoot 32 = .ok (.iconst 1, 1) := by decide +kernel
theorem d_Ro_putRoot_33 : decode b_Ro_putRoot 33 = .ok (.istore 7, 2) := by decide +kernel
theorem d_Ro_putRoot_35 : decode b_Ro_putRoot 35 = .ok (.aload_n 1, 1) := by decide +kernel
theorem d_Ro_putRoot_36 : decode b_Ro_putRoot 36 = .ok (.lconst 1, 1) := by decide +kernel
theorem d_Ro_putRoot_37 : decode b_Ro_putRoot 37 = .ok (.invokevirtual 30, 3) := by decide +kernel
theorem d_Ro_putRoot_40 : decode b_Ro_putRoot 40 = .ok (.aload_n 0, 1) := by decide +kernel
theorem d_Ro_putRoot_41 : decode b_Ro_putRoot 41 = .ok (.getfield 10, 3) := by decide +kernel
theorem d_Ro_putRoot_44 : decode b_Ro_putRoot 44 = .ok (.lconst 1, 1) := by decide +kernel
theorem d_Ro_putRoot_45 : decode b_Ro_putRoot 45 = .ok (.invokevirtual 30, 3) := by decide +kernel
theorem d_Ro_putRoot_48 : decode b_Ro_putRoot 48 = .ok (.aload_n 0, 1) := by decide +kernel
theorem d_Ro_putRoot_49 : decode b_Ro_putRoot 49 = .ok (.getfield 16, 3) := by decide +kernel
theorem d_Ro_putRoot_52 : decode b_Ro_putRoot 52 = .ok (.lconst 1, 1) := by decide +kernel
theorem d_Ro_putRoot_53 : decode b_Ro_putRoot 53 = .ok (.invokevirtual 30, 3) := by decide +kernel
theorem d_Ro_putRoot_56 : decode b_Ro_putRoot 56 = .ok (.iload 7, 2) := by decide +kernel
theorem d_Ro_putRoot_58 : decode b_Ro_putRoot 58 = .ok (.iload 6, 2) := by decide +kernel
theorem d_Ro_putRoot_60 : decode b_Ro_putRoot 60 = .ok (.if_icmp .ge 97, 3) := by decide +kernel
theorem d_Ro_putRoot_63 : decode b_Ro_putRoot 63 = .ok (.iconst 1, 1) := by decide +kernel
theorem d_Ro_putRoot_64 : decode b_Ro_putRoot 64 = .ok (.iload 7, 2) := by decide +kernel
theorem d_Ro_putRoot_66 : decode b_Ro_putRoot 66 = .ok (.iload 6, 2) := by decide +kernel
theorem d_Ro_putRoot_68 : decode b_Ro_putRoot 68 = .ok (.iload_n 3, 1) := by decide +kernel
theorem d_Ro_putRoot_69 : decode b_Ro_putRoot 69 = .ok (.invokestatic 34, 3) := by decide +kernel
theorem d_Ro_putRoot_72 : decode b_Ro_putRoot 72 = .ok (.iload 7, 2) := by decide +kernel
theorem d_Ro_putRoot_74 : decode b_Ro_putRoot 74 = .ok (.isub, 1) := by decide +kernel
theorem d_Ro_putRoot_75 : decode b_Ro_putRoot 75 = .ok (.invokestatic 38, 3) := by decide +kernel
theorem d_Ro_putRoot_78 : decode b_Ro_putRoot 78 = .ok (.istore 8, 2) := by decide +kernel
theorem d_Ro_putRoot_80 : decode b_Ro_putRoot 80 = .ok (.iload 7, 2) := by decide +kernel
theorem d_Ro_putRoot_82 : decode b_Ro_putRoot 82 = .ok (.iload 8, 2) := by decide +kernel
theorem d_Ro_putRoot_84 : decode b_Ro_putRoot 84 = .ok (.iadd, 1) := by decide +kernel
theorem d_Ro_putRoot_85 : decode b_Ro_putRoot 85 = .ok (.istore 7, 2) := by decide +kernel
theorem d_Ro_putRoot_87 : decode b_Ro_putRoot 87 = .ok (.iload 6, 2) := by decide +kernel
theorem d_Ro_putRoot_89 : decode b_Ro_putRoot 89 = .ok (.iload 7, 2) := by decide +kernel
theorem d_Ro_putRoot_91 : decode b_Ro_putRoot 91 = .ok (.isub, 1) := by decide +kernel
theorem d_Ro_putRoot_92 : decode b_Ro_putRoot 92 = .ok (.iload_n 3, 1) := by decide +kernel
theorem d_Ro_putRoot_93 : decode b_Ro_putRoot 93 = .ok (.imul, 1) := by decide +kernel
theorem d_Ro_putRoot_94 : decode b_Ro_putRoot 94 = .ok (.istore 9, 2) := by decide +kernel
theorem d_Ro_putRoot_96 : decode b_Ro_putRoot 96 = .ok (.aload_n 0, 1) := by decide +kernel
theorem d_Ro_putRoot_97 : decode b_Ro_putRoot 97 = .ok (.aload_n 2, 1) := by decide +kernel
theorem d_Ro_putRoot_98 : decode b_Ro_putRoot 98 = .ok (.iload_n 3, 1) := by decide +kernel
theorem d_Ro_putRoot_99 : decode b_Ro_putRoot 99 = .ok (.iload 8, 2) := by decide +kernel
theorem d_Ro_putRoot_101 : decode b_Ro_putRoot 101 = .ok (.iload 9, 2) := by decide +kernel
theorem d_Ro_putRoot_103 : decode b_Ro_putRoot 103 = .ok (.invokevirtual 44, 3) := by decide +kernel
theorem d_Ro_putRoot_106 : decode b_Ro_putRoot 106 = .ok (.aload 4, 2) := by decide +kernel
theorem d_Ro_putRoot_108 : decode b_Ro_putRoot 108 = .ok (.aload_n 0, 1) := by decide +kernel
theorem d_Ro_putRoot_109 : decode b_Ro_putRoot 109 = .ok (.getfield 19, 3) := by decide +kernel
theorem d_Ro_putRoot_112 : decode b_Ro_putRoot 112 = .ok (.aload_n 0, 1) := by decide +kernel
theorem d_Ro_putRoot_113 : decode b_Ro_putRoot 113 = .ok (.getfield 16, 3) := by decide +kernel
theorem d_Ro_putRoot_116 : decode b_Ro_putRoot 116 = .ok (.aload_n 0, 1) := by decide +kernel
theorem d_Ro_putRoot_117 : decode b_Ro_putRoot 117 = .ok (.getfield 19, 3) := by decide +kernel
theorem d_Ro_putRoot_120 : decode b_Ro_putRoot 120 = .ok (.aload_n 0, 1) := by decide +kernel
theorem d_Ro_putRoot_121 : decode b_Ro_putRoot 121 = .ok (.getfield 10, 3) := by decide +kernel
theorem d_Ro_putRoot_124 : decode b_Ro_putRoot 124 = .ok (.invokevirtual 48, 3) := by decide +kernel
theorem d_Ro_putRoot_127 : decode b_Ro_putRoot 127 = .ok (.pop, 1) := by decide +kernel
theorem d_Ro_putRoot_128 : decode b_Ro_putRoot 128 = .ok (.aload_n 0, 1) := by decide +kernel
theorem d_Ro_putRoot_129 : decode b_Ro_putRoot 129 = .ok (.aload_n 1, 1) := by decide +kernel
theorem d_Ro_putRoot_130 : decode b_Ro_putRoot 130 = .ok (.iload 8, 2) := by decide +kernel
theorem d_Ro_putRoot_132 : decode b_Ro_putRoot 132 = .ok (.invokevirtual 54, 3) := by decide +kernel
theorem d_Ro_putRoot_135 : decode b_Ro_putRoot 135 = .ok (.aload_n 0, 1) := by decide +kernel
theorem d_Ro_putRoot_136 : decode b_Ro_putRoot 136 = .ok (.getfield 19, 3) := by decide +kernel
theorem d_Ro_putRoot_139 : decode b_Ro_putRoot 139 = .ok (.aload_n 2, 1) := by decide +kernel
theorem d_Ro_putRoot_140 : decode b_Ro_putRoot 140 = .ok (.iload 9, 2) := by decide +kernel
theorem d_Ro_putRoot_142 : decode b_Ro_putRoot 142 = .ok (.ineg, 1) := by decide +kernel
theorem d_Ro_putRoot_143 : decode b_Ro_putRoot 143 = .ok (.invokevirtual 58, 3) := by decide +kernel
theorem d_Ro_putRoot_146 : decode b_Ro_putRoot 146 = .ok (.aload_n 0, 1) := by decide +kernel
theorem d_Ro_putRoot_147 : decode b_Ro_putRoot 147 = .ok (.aload_n 1, 1) := by decide +kernel
theorem d_Ro_putRoot_148 : decode b_Ro_putRoot 148 = .ok (.iload_n 3, 1) := by decide +kernel
theorem d_Ro_putRoot_149 : decode b_Ro_putRoot 149 = .ok (.aload 4, 2) := by decide +kernel
theorem d_Ro_putRoot_151 : decode b_Ro_putRoot 151 = .ok (.invokevirtual 61, 3) := by decide +kernel
theorem d_Ro_putRoot_154 : decode b_Ro_putRoot 154 = .ok (.goto (-98), 3) := by decide +kernel
theorem d_Ro_putRoot_157 : decode b_Ro_putRoot 157 = .ok (.return_, 1) := by decide +kernel
theorem d_Ro_nextLength_0 : decode b_Ro_nextLength 0 = .ok (.iload_n 2, 1) := by decide +kernel
theorem d_Ro_nextLength_1 : decode b_Ro_nextLength 1 = .ok (.invokestatic 65, 3) := by decide +kernel
theorem d_Ro_nextLength_4 : decode b_Ro_nextLength 4 = .ok (.iconst 1, 1) := by decide +kernel
theorem d_Ro_nextLength_5 : decode b_Ro_nextLength 5 = .ok (.iadd, 1) := by decide +kernel
theorem d_Ro_nextLength_6 : decode b_Ro_nextLength 6 = .ok (.istore_n 3, 1) := by decide +kernel
theorem d_Ro_nextLength_7 : decode b_Ro_nextLength 7 = .ok (.iconst 2, 1) := by decide +kernel
theorem d_Ro_nextLength_8 : decode b_Ro_nextLength 8 = .ok (.iload_n 0, 1) := by decide +kernel
theorem d_Ro_nextLength_9 : decode b_Ro_nextLength 9 = .ok (.imul, 1) := by decide +kernel
theorem d_Ro_nextLength_10 : decode b_Ro_nextLength 10 = .ok (.iload_n 3, 1) := by decide +kernel
theorem d_Ro_nextLength_11 : decode b_Ro_nextLength 11 = .ok (.isub, 1) := by decide +kernel
theorem d_Ro_nextLength_12 : decode b_Ro_nextLength 12 = .ok (.istore 4, 2) := by decide +kernel
theorem d_Ro_nextLength_14 : decode b_Ro_nextLength 14 = .ok (.iload_n 1, 1) := by decide +kernel
theorem d_Ro_nextLength_15 : decode b_Ro_nextLength 15 = .ok (.istore 5, 2) := by decide +kernel
theorem d_Ro_nextLength_17 : decode b_Ro_nextLength 17 = .ok (.iconst 0, 1) := by decide +kernel
theorem d_Ro_nextLength_18 : decode b_Ro_nextLength 18 = .ok (.istore 6, 2) := by decide +kernel
theorem d_Ro_nextLength_20 : decode b_Ro_nextLength 20 = .ok (.iload 6, 2) := by decide +kernel
theorem d_Ro_nextLength_22 : decode b_Ro_nextLength 22 = .ok (.bipush 20, 2) := by decide +kernel
theorem d_Ro_nextLength_24 : decode b_Ro_nextLength 24 = .ok (.if_icmp .ge 26, 3) := by decide +kernel
theorem d_Ro_nextLength_27 : decode b_Ro_nextLength 27 = .ok (.iload 5, 2) := by decide +kernel
theorem d_Ro_nextLength_29 : decode b_Ro_nextLength 29 = .ok (.iload 4, 2) := by decide +kernel
theorem d_Ro_nextLength_31 : decode b_Ro_nextLength 31 = .ok (.if_icmp .le 19, 3) := by decide +kernel
theorem d_Ro_nextLength_34 : decode b_Ro_nextLength 34 = .ok (.iload 5, 2) := by decide +kernel
theorem d_Ro_nextLength_36 : decode b_Ro_nextLength 36 = .ok (.iload_n 3, 1) := by decide +kernel
theorem d_Ro_nextLength_37 : decode b_Ro_nextLength 37 = .ok (.iadd, 1) := by decide +kernel
theorem d_Ro_nextLength_38 : decode b_Ro_nextLength 38 = .ok (.iconst 1, 1) := by decide +kernel
theorem d_Ro_nextLength_39 : decode b_Ro_nextLength 39 = .ok (.iadd, 1) := by decide +kernel
theorem d_Ro_nextLength_40 : decode b_Ro_nextLength 40 = .ok (.iconst 2, 1) := by decide +kernel
theorem d_Ro_nextLength_41 : decode b_Ro_nextLength 41 = .ok (.idiv, 1) := by decide +kernel
theorem d_Ro_nextLength_42 : decode b_Ro_nextLength 42 = .ok (.istore 5, 2) := by decide +kernel
theorem d_Ro_nextLength_44 : decode b_Ro_nextLength 44 = .ok (.iinc 6 1, 3) := by decide +kernel
theorem d_Ro_nextLength_47 : decode b_Ro_nextLength 47 = .ok (.goto (-27), 3) := by decide +kernel
theorem d_Ro_nextLength_50 : decode b_Ro_nextLength 50 = .ok (.iload 5, 2) := by decide +kernel
theorem d_Ro_nextLength_52 : decode b_Ro_nextLength 52 = .ok (.iload 4, 2) := by decide +kernel
theorem d_Ro_nextLength_54 : decode b_Ro_nextLength 54 = .ok (.invokestatic 71, 3) := by decide +kernel
theorem d_Ro_nextLength_57 : decode b_Ro_nextLength 57 = .ok (.ireturn, 1) := by decide +kernel
theorem d_Ro_layStep_0 : decode b_Ro_layStep 0 = .ok (.aload_n 0, 1) := by decide +kernel
theorem d_Ro_layStep_1 : decode b_Ro_layStep 1 = .ok (.getfield 19, 3) := by decide +kernel
theorem d_Ro_layStep_4 : decode b_Ro_layStep 4 = .ok (.aload_n 1, 1) := by decide +kernel
theorem d_Ro_layStep_5 : decode b_Ro_layStep 5 = .ok (.iload 4, 2) := by decide +kernel
theorem d_Ro_layStep_7 : decode b_Ro_layStep 7 = .ok (.ineg, 1) := by decide +kernel
theorem d_Ro_layStep_8 : decode b_Ro_layStep 8 = .ok (.iload_n 3, 1) := by decide +kernel
theorem d_Ro_layStep_9 : decode b_Ro_layStep 9 = .ok (.iload_n 2, 1) := by decide +kernel
theorem d_Ro_layStep_10 : decode b_Ro_layStep 10 = .ok (.iconst 1, 1) := by decide +kernel
theorem d_Ro_layStep_11 : decode b_Ro_layStep 11 = .ok (.isub, 1) := by decide +kernel
theorem d_Ro_layStep_12 : decode b_Ro_layStep 12 = .ok (.imul, 1) := by decide +kernel
theorem d_Ro_layStep_13 : decode b_Ro_layStep 13 = .ok (.isub, 1) := by decide +kernel
theorem d_Ro_layStep_14 : decode b_Ro_layStep 14 = .ok (.invokevirtual 58, 3) := by decide +kernel
theorem d_Ro_layStep_17 : decode b_Ro_layStep 17 = .ok (.aload_n 0, 1) := by decide +kernel
theorem d_Ro_layStep_18 : decode b_Ro_layStep 18 = .ok (.getfield 16, 3) := by decide +kernel
theorem d_Ro_layStep_21 : decode b_Ro_layStep 21 = .ok (.aload_n 0, 1) := by decide +kernel
theorem d_Ro_layStep_22 : decode b_Ro_layStep 22 = .ok (.getfield 16, 3) := by decide +kernel
theorem d_Ro_layStep_25 : decode b_Ro_layStep 25 = .ok (.iload_n 3, 1) := by decide +kernel
theorem d_Ro_layStep_26 : decode b_Ro_layStep 26 = .ok (.invokevirtual 58, 3) := by decide +kernel
theorem d_Ro_layStep_29 : decode b_Ro_layStep 29 = .ok (.aload_n 0, 1) := by decide +kernel
theorem d_Ro_layStep_30 : decode b_Ro_layStep 30 = .ok (.getfield 19, 3) := by decide +kernel
theorem d_Ro_layStep_33 : decode b_Ro_layStep 33 = .ok (.aload_n 0, 1) := by decide +kernel
theorem d_Ro_layStep_34 : decode b_Ro_layStep 34 = .ok (.getfield 19, 3) := by decide +kernel
theorem d_Ro_layStep_37 : decode b_Ro_layStep 37 = .ok (.aload_n 0, 1) := by decide +kernel
theorem d_Ro_layStep_38 : decode b_Ro_layStep 38 = .ok (.getfield 16, 3) := by decide +kernel
theorem d_Ro_layStep_41 : decode b_Ro_layStep 41 = .ok (.invokevirtual 74, 3) := by decide +kernel
theorem d_Ro_layStep_44 : decode b_Ro_layStep 44 = .ok (.aload_n 0, 1) := by decide +kernel
theorem d_Ro_layStep_45 : decode b_Ro_layStep 45 = .ok (.getfield 10, 3) := by decide +kernel
theorem d_Ro_layStep_48 : decode b_Ro_layStep 48 = .ok (.iload_n 2, 1) := by decide +kernel
theorem d_Ro_layStep_49 : decode b_Ro_layStep 49 = .ok (.iconst 0, 1) := by decide +kernel
theorem d_Ro_layStep_50 : decode b_Ro_layStep 50 = .ok (.invokevirtual 78, 3) := by decide +kernel
theorem d_Ro_layStep_53 : decode b_Ro_layStep 53 = .ok (.return_, 1) := by decide +kernel
theorem d_Ro_lengthen_0 : decode b_Ro_lengthen 0 = .ok (.aload_n 0, 1) := by decide +kernel
theorem d_Ro_lengthen_1 : decode b_Ro_lengthen 1 = .ok (.getfield 19, 3) := by decide +kernel
theorem d_Ro_lengthen_4 : decode b_Ro_lengthen 4 = .ok (.invokevirtual 22, 3) := by decide +kernel
theorem d_Ro_lengthen_7 : decode b_Ro_lengthen 7 = .ok (.iload_n 2, 1) := by decide +kernel
theorem d_Ro_lengthen_8 : decode b_Ro_lengthen 8 = .ok (.if_icmp .le 11, 3) := by decide +kernel
theorem d_Ro_lengthen_11 : decode b_Ro_lengthen 11 = .ok (.aload_n 0, 1) := by decide +kernel
theorem d_Ro_lengthen_12 : decode b_Ro_lengthen 12 = .ok (.getfield 19, 3) := by decide +kernel
theorem d_Ro_lengthen_15 : decode b_Ro_lengthen 15 = .ok (.iload_n 2, 1) := by decide +kernel
theorem d_Ro_lengthen_16 : decode b_Ro_lengthen 16 = .ok (.invokevirtual 82, 3) := by decide +kernel
theorem d_Ro_lengthen_19 : decode b_Ro_lengthen 19 = .ok (.aload_n 1, 1) := by decide +kernel
theorem d_Ro_lengthen_20 : decode b_Ro_lengthen 20 = .ok (.aload_n 1, 1) := by decide +kernel
theorem d_Ro_lengthen_21 : decode b_Ro_lengthen 21 = .ok (.iload_n 2, 1) := by decide +kernel
theorem d_Ro_lengthen_22 : decode b_Ro_lengthen 22 = .ok (.invokevirtual 58, 3) := by decide +kernel
theorem d_Ro_lengthen_25 : decode b_Ro_lengthen 25 = .ok (.aload_n 1, 1) := by decide +kernel
theorem d_Ro_lengthen_26 : decode b_Ro_lengthen 26 = .ok (.aload_n 1, 1) := by decide +kernel
theorem d_Ro_lengthen_27 : decode b_Ro_lengthen 27 = .ok (.aload_n 0, 1) := by decide +kernel
theorem d_Ro_lengthen_28 : decode b_Ro_lengthen 28 = .ok (.getfield 19, 3) := by decide +kernel
theorem d_Ro_lengthen_31 : decode b_Ro_lengthen 31 = .ok (.invokevirtual 86, 3) := by decide +kernel
theorem d_Ro_lengthen_34 : decode b_Ro_lengthen 34 = .ok (.return_, 1) := by decide +kernel
theorem d_Ro_lowerToFit_0 : decode b_Ro_lowerToFit 0 = .ok (.iconst 0, 1) := by decide +kernel
theorem d_Ro_lowerToFit_1 : decode b_Ro_lowerToFit 1 = .ok (.istore 4, 2) := by decide +kernel
theorem d_Ro_lowerToFit_3 : decode b_Ro_lowerToFit 3 = .ok (.iconst 0, 1) := by decide +kernel
theorem d_Ro_lowerToFit_4 : decode b_Ro_lowerToFit 4 = .ok (.istore 5, 2) := by decide +kernel
theorem d_Ro_lowerToFit_6 : decode b_Ro_lowerToFit 6 = .ok (.iload 5, 2) := by decide +kernel
theorem d_Ro_lowerToFit_8 : decode b_Ro_lowerToFit 8 = .ok (.iconst 4, 1) := by decide +kernel
theorem d_Ro_lowerToFit_9 : decode b_Ro_lowerToFit 9 = .ok (.if_icmp .ge 78, 3) := by decide +kernel
theorem d_Ro_lowerToFit_12 : decode b_Ro_lowerToFit 12 = .ok (.iload 4, 2) := by decide +kernel
theorem d_Ro_lowerToFit_14 : decode b_Ro_lowerToFit 14 = .ok (.ifCond .ne 73, 3) := by decide +kernel
theorem d_Ro_lowerToFit_17 : decode b_Ro_lowerToFit 17 = .ok (.aload_n 3, 1) := by decide +kernel
theorem d_Ro_lowerToFit_18 : decode b_Ro_lowerToFit 18 = .ok (.aload_n 0, 1) := by decide +kernel
theorem d_Ro_lowerToFit_19 : decode b_Ro_lowerToFit 19 = .ok (.getfield 10, 3) := by decide +kernel
theorem d_Ro_lowerToFit_22 : decode b_Ro_lowerToFit 22 = .ok (.aload_n 1, 1) := by decide +kernel
theorem d_Ro_lowerToFit_23 : decode b_Ro_lowerToFit 23 = .ok (.iload_n 2, 1) := by decide +kernel
theorem d_Ro_lowerToFit_24 : decode b_Ro_lowerToFit 24 = .ok (.iconst 1, 1) := by decide +kernel
theorem d_Ro_lowerToFit_25 : decode b_Ro_lowerToFit 25 = .ok (.isub, 1) := by decide +kernel
theorem d_Ro_lowerToFit_26 : decode b_Ro_lowerToFit 26 = .ok (.invokevirtual 89, 3) := by decide +kernel
theorem d_Ro_lowerToFit_29 : decode b_Ro_lowerToFit 29 = .ok (.aload_n 3, 1) := by decide +kernel
theorem d_Ro_lowerToFit_30 : decode b_Ro_lowerToFit 30 = .ok (.aload_n 0, 1) := by decide +kernel
theorem d_Ro_lowerToFit_31 : decode b_Ro_lowerToFit 31 = .ok (.getfield 16, 3) := by decide +kernel
theorem d_Ro_lowerToFit_34 : decode b_Ro_lowerToFit 34 = .ok (.iload_n 2, 1) := by decide +kernel
theorem d_Ro_lowerToFit_35 : decode b_Ro_lowerToFit 35 = .ok (.iconst 2, 1) := by decide +kernel
theorem d_Ro_lowerToFit_36 : decode b_Ro_lowerToFit 36 = .ok (.if_icmp .ne 7, 3) := by decide +kernel
theorem d_Ro_lowerToFit_39 : decode b_Ro_lowerToFit 39 = .ok (.aload_n 1, 1) := by decide +kernel
theorem d_Ro_lowerToFit_40 : decode b_Ro_lowerToFit 40 = .ok (.goto 7, 3) := by decide +kernel
theorem d_Ro_lowerToFit_43 : decode b_Ro_lowerToFit 43 = .ok (.aload_n 0, 1) := by decide +kernel
theorem d_Ro_lowerToFit_44 : decode b_Ro_lowerToFit 44 = .ok (.getfield 10, 3) := by decide +kernel
theorem d_Ro_lowerToFit_47 : decode b_Ro_lowerToFit 47 = .ok (.aload_n 1, 1) := by decide +kernel
theorem d_Ro_lowerToFit_48 : decode b_Ro_lowerToFit 48 = .ok (.invokevirtual 93, 3) := by decide +kernel
theorem d_Ro_lowerToFit_51 : decode b_Ro_lowerToFit 51 = .ok (.aload_n 0, 1) := by decide +kernel
theorem d_Ro_lowerToFit_52 : decode b_Ro_lowerToFit 52 = .ok (.getfield 16, 3) := by decide +kernel
theorem d_Ro_lowerToFit_55 : decode b_Ro_lowerToFit 55 = .ok (.aload_n 0, 1) := by decide +kernel
theorem d_Ro_lowerToFit_56 : decode b_Ro_lowerToFit 56 = .ok (.getfield 19, 3) := by decide +kernel
theorem d_Ro_lowerToFit_59 : decode b_Ro_lowerToFit 59 = .ok (.invokevirtual 97, 3) := by decide +kernel
theorem d_Ro_lowerToFit_62 : decode b_Ro_lowerToFit 62 = .ok (.ifCond .gt 7, 3) := by decide +kernel
theorem d_Ro_lowerToFit_65 : decode b_Ro_lowerToFit 65 = .ok (.iconst 1, 1) := by decide +kernel
theorem d_Ro_lowerToFit_66 : decode b_Ro_lowerToFit 66 = .ok (.goto 4, 3) := by decide +kernel
theorem d_Ro_lowerToFit_69 : decode b_Ro_lowerToFit 69 = .ok (.iconst 0, 1) := by decide +kernel
theorem d_Ro_lowerToFit_70 : decode b_Ro_lowerToFit 70 = .ok (.istore 4, 2) := by decide +kernel
theorem d_Ro_lowerToFit_72 : decode b_Ro_lowerToFit 72 = .ok (.iload 4, 2) := by decide +kernel
theorem d_Ro_lowerToFit_74 : decode b_Ro_lowerToFit 74 = .ok (.ifCond .ne 7, 3) := by decide +kernel
theorem d_Ro_lowerToFit_77 : decode b_Ro_lowerToFit 77 = .ok (.aload_n 1, 1) := by decide +kernel
theorem d_Ro_lowerToFit_78 : decode b_Ro_lowerToFit 78 = .ok (.invokevirtual 101, 3) := by decide +kernel
theorem d_Ro_lowerToFit_81 : decode b_Ro_lowerToFit 81 = .ok (.iinc 5 1, 3) := by decide +kernel
theorem d_Ro_lowerToFit_84 : decode b_Ro_lowerToFit 84 = .ok (.goto (-78), 3) := by decide +kernel
theorem d_Ro_lowerToFit_87 : decode b_Ro_lowerToFit 87 = .ok (.return_, 1) := by decide +kernel
end
section
/-! NUMBERS: a word without its sign, the value of a part of a row, its laws (no machine in here) -/
/-- a word, taken without a sign -/
def wN (x : Int32) : Nat := x.toBitVec.toNat
theorem wN_lt (x : Int32) : wN x < 4294967296 := x.toBitVec.isLt
theorem wN_nI (n : Nat) : wN (nI n) = n % 4294967296 := by
  show (BitVec.ofNat 32 n).toNat = _
  rw [BitVec.toNat_ofNat]
theorem nI_wN (x : Int32) : nI (wN x) = x := by
  apply Int32.toBitVec_inj.mp
  show BitVec.ofNat 32 x.toBitVec.toNat = x.toBitVec
  simp
theorem wN_inj {x y : Int32} (h : wN x = wN y) : x = y := by rw [← nI_wN x, ← nI_wN y, h]
theorem wN_0 : wN 0 = 0 := by decide
theorem wN_eq0 {x : Int32} : wN x = 0 ↔ x = 0 := ⟨fun h => wN_inj (h.trans wN_0.symm), fun h => by rw [h]; exact wN_0⟩
/-- the value of n words of f from a on, the lowest first -/
def vN (f : Nat → Int32) (a : Nat) : Nat → Nat
  | 0 => 0
  | n + 1 => vN f a n + wN (f (a + n)) * 4294967296 ^ n
theorem vN_0 (f : Nat → Int32) (a : Nat) : vN f a 0 = 0 := rfl
theorem vN_succ (f : Nat → Int32) (a n : Nat) : vN f a (n + 1) = vN f a n + wN (f (a + n)) * 4294967296 ^ n := rfl
theorem vN_lt (f : Nat → Int32) (a n : Nat) : vN f a n < 4294967296 ^ n := by
  induction n with
  | zero => exact Nat.one_pos
  | succ n ih =>
    rw [vN_succ, Nat.pow_succ]
    have h := wN_lt (f (a + n))
    have h2 : (wN (f (a + n)) + 1) * 4294967296 ^ n ≤ 4294967296 * 4294967296 ^ n := Nat.mul_le_mul_right _ h
    rw [Nat.add_mul, Nat.one_mul] at h2
    rw [Nat.mul_comm (4294967296 ^ n)]
    omega
theorem vN_congr {f g : Nat → Int32} {a b n : Nat} (h : ∀ i, i < n → f (a + i) = g (b + i)) : vN f a n = vN g b n := by
  induction n with
  | zero => rfl
  | succ n ih => rw [vN_succ, vN_succ, ih (fun i hi => h i (by omega)), h n (by omega)]
theorem vN_add (f : Nat → Int32) (a n k : Nat) : vN f a (n + k) = vN f a n + 4294967296 ^ n * vN f (a + n) k := by
  induction k with
  | zero => rw [vN_0, Nat.mul_zero, Nat.add_zero, Nat.add_zero]
  | succ k ih =>
    rw [← Nat.add_assoc, vN_succ, ih, vN_succ, Nat.mul_add, Nat.pow_add, Nat.add_assoc a n k]
    have : wN (f (a + (n + k))) * (4294967296 ^ n * 4294967296 ^ k) = 4294967296 ^ n * (wN (f (a + (n + k))) * 4294967296 ^ k) := by
      rw [Nat.mul_left_comm]
    omega
theorem vN_one (f : Nat → Int32) (a : Nat) : vN f a 1 = wN (f a) := by
  rw [vN_succ, vN_0, Nat.pow_zero, Nat.mul_one, Nat.zero_add, Nat.add_zero]
theorem vN_cons (f : Nat → Int32) (a n : Nat) : vN f a (n + 1) = wN (f a) + 4294967296 * vN f (a + 1) n := by
  rw [Nat.add_comm n 1, vN_add, vN_one, Nat.pow_one]
theorem vN_zero {f : Nat → Int32} {a n : Nat} (h : ∀ i, i < n → f (a + i) = 0) : vN f a n = 0 := by
  induction n with
  | zero => rfl
  | succ n ih => rw [vN_succ, ih (fun i hi => h i (by omega)), h n (by omega), wN_0, Nat.zero_mul]
theorem vN_eq0 {f : Nat → Int32} {a n : Nat} (h : vN f a n = 0) : ∀ i, i < n → f (a + i) = 0 := by
  induction n with
  | zero => intro i hi; omega
  | succ n ih =>
    rw [vN_succ] at h
    have h1 : vN f a n = 0 := by omega
    have h2 : wN (f (a + n)) * 4294967296 ^ n = 0 := by omega
    intro i hi
    rcases Nat.lt_or_ge i n with q | q
    · exact ih h1 i q
    · have : i = n := by omega
      subst this
      rcases Nat.mul_eq_zero.mp h2 with q | q
      · exact wN_eq0.mp q
      · exact absurd q (Nat.ne_of_gt (Nat.pow_pos (by decide)))
theorem vN_inj {f g : Nat → Int32} {a b n : Nat} (h : vN f a n = vN g b n) : ∀ i, i < n → f (a + i) = g (b + i) := by
  induction n with
  | zero => intro i hi; omega
  | succ n ih =>
    rw [vN_succ, vN_succ] at h
    have h1 := vN_lt f a n
    have h2 := vN_lt g b n
    have e1 : wN (f (a + n)) = wN (g (b + n)) := by
      have d1 : (vN f a n + wN (f (a + n)) * 4294967296 ^ n) / 4294967296 ^ n = wN (f (a + n)) := by
        rw [Nat.add_mul_div_right _ _ (Nat.pow_pos (by decide)), Nat.div_eq_of_lt h1, Nat.zero_add]
      have d2 : (vN g b n + wN (g (b + n)) * 4294967296 ^ n) / 4294967296 ^ n = wN (g (b + n)) := by
        rw [Nat.add_mul_div_right _ _ (Nat.pow_pos (by decide)), Nat.div_eq_of_lt h2, Nat.zero_add]
      rw [← d1, ← d2, h]
    rw [e1] at h
    have e2 : vN f a n = vN g b n := by omega
    intro i hi
    rcases Nat.lt_or_ge i n with q | q
    · exact ih e2 i q
    · have : i = n := by omega
      subst this
      exact wN_inj e1
/-- the highest word isn't 0: how large the value is at least -/
theorem vN_ge {f : Nat → Int32} {a n : Nat} (h : f (a + n) ≠ 0) : 4294967296 ^ n ≤ vN f a (n + 1) := by
  rw [vN_succ]
  have h1 : 1 ≤ wN (f (a + n)) := Nat.one_le_iff_ne_zero.mpr (fun q => h (wN_eq0.mp q))
  have h2 : 1 * 4294967296 ^ n ≤ wN (f (a + n)) * 4294967296 ^ n := Nat.mul_le_mul_right _ h1
  omega
theorem vN_top0 {f : Nat → Int32} {a n : Nat} (h : f (a + n) = 0) : vN f a (n + 1) = vN f a n := by
  rw [vN_succ, h, wN_0, Nat.zero_mul, Nat.add_zero]
/-- a store outside the part leaves its value -/
theorem vN_out {f : Nat → Int32} {a n k : Nat} {x : Int32} (h : k < a ∨ a + n ≤ k) : vN (upd f k x) a n = vN f a n :=
  vN_congr (fun i hi => pk_un (by omega))
/-- how many bits a number has -/
def nb (v : Nat) : Nat := if v = 0 then 0 else Nat.log2 v + 1
theorem nb_0 : nb 0 = 0 := rfl
theorem nb_lt (v : Nat) : v < 2 ^ nb v := by
  unfold nb
  split
  · omega
  · exact Nat.lt_log2_self
theorem nb_le {v : Nat} (h : v ≠ 0) : 2 ^ (nb v - 1) ≤ v := by
  unfold nb
  rw [if_neg h]
  exact Nat.log2_self_le h
theorem nb_pos {v : Nat} (h : v ≠ 0) : 1 ≤ nb v := by
  unfold nb
  rw [if_neg h]
  omega
theorem nb_eq {v k : Nat} (h1 : 2 ^ k ≤ v) (h2 : v < 2 ^ (k + 1)) : nb v = k + 1 := by
  have h0 : v ≠ 0 := by
    intro h
    rw [h] at h1
    exact absurd h1 (Nat.not_le.mpr (Nat.pow_pos (by decide)))
  have a1 := nb_lt v
  have a2 := nb_le h0
  have a3 := nb_pos h0
  have b1 : k < nb v := (Nat.pow_lt_pow_iff_right (by decide : 1 < 2)).mp (Nat.lt_of_le_of_lt h1 a1)
  have b2 : nb v - 1 < k + 1 := (Nat.pow_lt_pow_iff_right (by decide : 1 < 2)).mp (Nat.lt_of_le_of_lt a2 h2)
  omega
theorem nb_le_iff {v k : Nat} : nb v ≤ k ↔ v < 2 ^ k := by
  constructor
  · intro h
    exact Nat.lt_of_lt_of_le (nb_lt v) (Nat.pow_le_pow_right (by decide) h)
  · intro h
    rcases Nat.eq_zero_or_pos v with q | q
    · rw [q]; exact Nat.zero_le _
    · have a2 := nb_le (Nat.ne_of_gt q)
      have a3 := nb_pos (Nat.ne_of_gt q)
      have b2 : nb v - 1 < k := (Nat.pow_lt_pow_iff_right (by decide : 1 < 2)).mp (Nat.lt_of_le_of_lt a2 h)
      omega
/-- the bits of a row's value by those of its highest word -/
theorem nb_vN {f : Nat → Int32} {a n : Nat} (h : f (a + n) ≠ 0) : nb (vN f a (n + 1)) = 32 * n + nb (wN (f (a + n))) := by
  have h0 : wN (f (a + n)) ≠ 0 := fun q => h (wN_eq0.mp q)
  have l1 := vN_lt f a n
  have hp : (4294967296 : Nat) ^ n = 2 ^ (32 * n) := by rw [Nat.pow_mul]
  have a1 := nb_lt (wN (f (a + n)))
  have a2 := nb_le h0
  have a3 := nb_pos h0
  have e : 32 * n + nb (wN (f (a + n))) = (32 * n + (nb (wN (f (a + n))) - 1)) + 1 := by omega
  rw [e]
  apply nb_eq
  · rw [vN_succ, hp, Nat.pow_add, Nat.mul_comm]
    have := Nat.mul_le_mul_right (2 ^ (32 * n)) a2
    omega
  · rw [vN_succ, hp]
    rw [hp] at l1
    have e2 : 32 * n + (nb (wN (f (a + n))) - 1) + 1 = nb (wN (f (a + n))) + 32 * n := by omega
    rw [e2, Nat.pow_add]
    have := Nat.mul_le_mul_right (2 ^ (32 * n)) (show wN (f (a + n)) + 1 ≤ 2 ^ nb (wN (f (a + n))) from a1)
    rw [Nat.add_mul, Nat.one_mul] at this
    omega
/-- a word masked in a long: its number -/
theorem lw_low (x : Int32) : x.toInt64 &&& 4294967295 = lN (wN x) := by
  apply Int64.toBitVec_inj.mp
  apply BitVec.eq_of_toNat_eq
  show (x.toInt64.toBitVec &&& 4294967295#64).toNat = (BitVec.ofNat 64 (wN x)).toNat
  have h1 : x.toInt64.toBitVec = x.toBitVec.signExtend 64 := rfl
  have h2 : wN x = x.toBitVec.toNat := rfl
  have h3 := wN_lt x
  rw [BitVec.toNat_and, show (4294967295#64).toNat = 2 ^ 32 - 1 from by decide, Nat.and_two_pow_sub_one_eq_mod, BitVec.toNat_ofNat, h1, BitVec.toNat_signExtend, BitVec.toNat_setWidth, ← h2]
  split <;> omega
theorem lw_low2 (x : Int32) : lN 4294967295 &&& x.toInt64 = lN (wN x) := by
  rw [← lw_low x]
  exact Int64.toBitVec_inj.mp (BitVec.and_comm _ _)
end
section
/-! CHAINS OF WORDS: one step of an addition, of a subtraction (in Int) -/
theorem vN_push (f : Nat → Int32) (a i : Nat) (x : Int32) : vN (upd f (a + i) x) a (i + 1) = vN f a i + wN x * 4294967296 ^ i := by
  rw [vN_succ, vN_out (Or.inr (Nat.le_refl _)), pk_us]
theorem ch_split (S q : Nat) : S % 4294967296 * q + S / 4294967296 * (q * 4294967296) = S * q := by
  have h := Nat.div_add_mod S 4294967296
  have h2 : S / 4294967296 * (q * 4294967296) = 4294967296 * (S / 4294967296) * q := by
    rw [Nat.mul_comm q, ← Nat.mul_assoc, Nat.mul_comm (S / 4294967296)]
  rw [h2, ← Nat.add_mul, Nat.add_comm, h]
theorem ch_add {f : Nat → Int32} {a i c t V : Nat} (h : vN f a i + c * 4294967296 ^ i = V) : vN (upd f (a + i) (nI (c + t))) a (i + 1) + (c + t) / 4294967296 * 4294967296 ^ (i + 1) = V + t * 4294967296 ^ i := by
  rw [vN_push, wN_nI, Nat.pow_succ, Nat.add_assoc, ch_split, ← h, Nat.add_mul]
  omega
/-- an Int as a long -/
def lZ (z : Int) : Int64 := Int64.ofInt z
theorem lZ_add (a b : Int) : lZ a + lZ b = lZ (a + b) := (Int64.ofInt_add a b).symm
theorem lZ_sub (a b : Int) : lZ a - lZ b = lZ (a - b) := (Int64.ofInt_sub a b).symm
theorem lZ_mul (a b : Int) : lZ a * lZ b = lZ (a * b) := (Int64.ofInt_mul a b).symm
theorem lZ_N (n : Nat) : lN n = lZ (n : Int) := (Int64.ofInt_eq_ofNat (n := n)).symm
theorem lZ_toInt {z : Int} (h1 : -2 ^ 63 ≤ z) (h2 : z < 2 ^ 63) : (lZ z).toInt = z := by
  show (Int64.ofInt z).toInt = z
  rw [Int64.toInt_ofInt]
  show z.bmod (2 ^ 64) = z
  rw [Int.bmod_def]
  omega
theorem lZ_inj {x : Int64} {z : Int} (h : x.toInt = z) : x = lZ z := by
  rw [← h]
  exact (Int64.ofInt_toInt x).symm
theorem lZ_shr {z : Int} (h1 : -2 ^ 63 ≤ z) (h2 : z < 2 ^ 63) : lZ z >>> ((nI 32).toInt64 &&& 63) = lZ (z / 4294967296) := by
  apply lZ_inj
  have h : (((nI 32).toInt64 &&& 63).toBitVec.smod 64).toNat = 32 := by decide
  have e : (lZ z >>> ((nI 32).toInt64 &&& 63)).toInt = ((lZ z).toBitVec.sshiftRight' (((nI 32).toInt64 &&& 63).toBitVec.smod 64)).toInt := rfl
  rw [e, BitVec.toInt_sshiftRight', h, Int.shiftRight_eq_div_pow]
  show (lZ z).toInt / _ = _
  rw [lZ_toInt h1 h2]
  rfl
/-- the low word of a long that holds an Int -/
theorem lZ_word {z : Int} : (wN (lZ z).toInt32 : Int) = z % 4294967296 := by
  show (((lZ z).toInt32.toBitVec.toNat : Nat) : Int) = _
  have h : (lZ z).toInt32 = Int32.ofInt z := Int64.toInt32_ofInt
  rw [h]
  show ((BitVec.ofInt 32 z).toNat : Int) = _
  rw [BitVec.toNat_ofInt]
  omega
theorem ch_addZ {f : Nat → Int32} {a i : Nat} {c t V : Int} (h : (vN f a i : Int) + c * 4294967296 ^ i = V) : (vN (upd f (a + i) (lZ (c + t)).toInt32) a (i + 1) : Int) + (c + t) / 4294967296 * 4294967296 ^ (i + 1) = V + t * 4294967296 ^ i := by
  have e : (vN (upd f (a + i) (lZ (c + t)).toInt32) a (i + 1) : Int) = (vN f a i : Int) + (c + t) % 4294967296 * 4294967296 ^ i := by
    rw [vN_push, Int.natCast_add, Int.natCast_mul, Int.natCast_pow, lZ_word]
    rfl
  have h2 := Int.emod_add_mul_ediv (c + t) 4294967296
  rw [e, ← h, Int.pow_succ]
  generalize (4294967296 : Int) ^ i = P
  have h3 : (c + t) / 4294967296 * (P * 4294967296) = 4294967296 * ((c + t) / 4294967296) * P := by
    rw [Int.mul_comm P, ← Int.mul_assoc, Int.mul_comm ((c + t) / 4294967296)]
  have h4 : (c + t) % 4294967296 * P + 4294967296 * ((c + t) / 4294967296) * P = c * P + t * P := by
    rw [← Int.add_mul, h2, Int.add_mul]
  rw [h3]
  omega
end
section
/-! THE HIGHEST BIT, smeared downwards -/
def Sm (x n s : Nat) : Prop := ∀ i, s.testBit i = true ↔ ∃ d, d < n ∧ x.testBit (i + d) = true
theorem sm_1 (x : Nat) : Sm x 1 x := by
  intro i
  constructor
  · intro h
    exact ⟨0, by decide, h⟩
  · rintro ⟨d, h1, h2⟩
    have : d = 0 := by omega
    subst this
    exact h2
theorem sm_dbl {x n s : Nat} (h : Sm x n s) : Sm x (n + n) (s ||| s >>> n) := by
  intro i
  rw [Nat.testBit_or, Nat.testBit_shiftRight, Bool.or_eq_true, h i, h (n + i)]
  constructor
  · rintro (⟨d, h1, h2⟩ | ⟨d, h1, h2⟩)
    · exact ⟨d, by omega, h2⟩
    · exact ⟨n + d, by omega, by rw [show i + (n + d) = n + i + d by omega]; exact h2⟩
  · rintro ⟨d, h1, h2⟩
    rcases Nat.lt_or_ge d n with q | q
    · exact Or.inl ⟨d, q, h2⟩
    · exact Or.inr ⟨d - n, by omega, by rw [show n + i + (d - n) = i + d by omega]; exact h2⟩
theorem sm_top {x : Nat} (h : x ≠ 0) : x.testBit (nb x - 1) = true := by
  have a1 := nb_lt x
  have a2 := nb_le h
  have a3 := nb_pos h
  rw [Nat.testBit_eq_decide_div_mod_eq]
  have : x / 2 ^ (nb x - 1) = 1 := by
    rw [Nat.div_eq_iff (Nat.pow_pos (by decide))]
    rw [show nb x = (nb x - 1) + 1 by omega, Nat.pow_succ] at a1
    omega
  rw [this]
  rfl
theorem sm_32 {x s : Nat} (h : Sm x 32 s) (hx : x < 2 ^ 32) : s = 2 ^ nb x - 1 := by
  apply Nat.eq_of_testBit_eq
  intro i
  rw [Nat.testBit_two_pow_sub_one]
  have hb : nb x ≤ 32 := nb_le_iff.mpr hx
  apply Bool.eq_iff_iff.mpr
  rw [h i, decide_eq_true_iff]
  constructor
  · rintro ⟨d, h1, h2⟩
    have h3 : 2 ^ (i + d) ≤ x := Nat.ge_two_pow_of_testBit h2
    have h4 : 2 ^ i ≤ x := Nat.le_trans (Nat.pow_le_pow_right (by decide) (by omega)) h3
    exact (Nat.pow_lt_pow_iff_right (by decide : 1 < 2)).mp (Nat.lt_of_le_of_lt h4 (nb_lt x))
  · intro hi
    have h0 : x ≠ 0 := fun q => by rw [q, nb_0] at hi; omega
    exact ⟨nb x - 1 - i, by omega, by rw [show i + (nb x - 1 - i) = nb x - 1 by omega]; exact sm_top h0⟩
end
section
/-! ROWS WITH A NAMED ANSWER: the kit's rows of arithmetic, the value given in the form that is wanted -/
section NW
variable {p : Program} {l : Launch} {e : Env} {R : Room} {s : State} {m : MethodId} {args : Array Value} {below : List Frame} {meth : Method} {c : Code} {H : Heap} {locs : List Loc} {cells slots : Nat} {Q : State → Prop}
variable {cc : ByteArray} {pc : Nat} {ls : Array Slot} {rest : List Value}
theorem nw_iadd (hexec : p.tables.exec = Jvm.exec) (hb : c.code = cc) {x y v : Int32} (hdg : decode cc pc = .ok (.iadd, 1)) (hv : x + y = v)
    (k : W p l e R s m args below meth c H locs cells slots Q (F0 m (pc + 1) ls (.int v :: rest))) : W p l e R s m args below meth c H locs cells slots Q (F0 m pc ls (.int y :: .int x :: rest)) := by
  subst hv
  exact lv_iadd hexec hb hdg k
theorem nw_isub (hexec : p.tables.exec = Jvm.exec) (hb : c.code = cc) {x y v : Int32} (hdg : decode cc pc = .ok (.isub, 1)) (hv : x - y = v)
    (k : W p l e R s m args below meth c H locs cells slots Q (F0 m (pc + 1) ls (.int v :: rest))) : W p l e R s m args below meth c H locs cells slots Q (F0 m pc ls (.int y :: .int x :: rest)) := by
  subst hv
  exact lv_isub hexec hb hdg k
theorem nw_imul (hexec : p.tables.exec = Jvm.exec) (hb : c.code = cc) {x y v : Int32} (hdg : decode cc pc = .ok (.imul, 1)) (hv : x * y = v)
    (k : W p l e R s m args below meth c H locs cells slots Q (F0 m (pc + 1) ls (.int v :: rest))) : W p l e R s m args below meth c H locs cells slots Q (F0 m pc ls (.int y :: .int x :: rest)) := by
  subst hv
  exact lv_imul hexec hb hdg k
theorem nw_iand (hexec : p.tables.exec = Jvm.exec) (hb : c.code = cc) {x y v : Int32} (hdg : decode cc pc = .ok (.iand, 1)) (hv : x &&& y = v)
    (k : W p l e R s m args below meth c H locs cells slots Q (F0 m (pc + 1) ls (.int v :: rest))) : W p l e R s m args below meth c H locs cells slots Q (F0 m pc ls (.int y :: .int x :: rest)) := by
  subst hv
  exact lv_iand hexec hb hdg k
theorem nw_ior (hexec : p.tables.exec = Jvm.exec) (hb : c.code = cc) {x y v : Int32} (hdg : decode cc pc = .ok (.ior, 1)) (hv : x ||| y = v)
    (k : W p l e R s m args below meth c H locs cells slots Q (F0 m (pc + 1) ls (.int v :: rest))) : W p l e R s m args below meth c H locs cells slots Q (F0 m pc ls (.int y :: .int x :: rest)) := by
  subst hv
  exact lv_ior hexec hb hdg k
theorem nw_ixor (hexec : p.tables.exec = Jvm.exec) (hb : c.code = cc) {x y v : Int32} (hdg : decode cc pc = .ok (.ixor, 1)) (hv : x ^^^ y = v)
    (k : W p l e R s m args below meth c H locs cells slots Q (F0 m (pc + 1) ls (.int v :: rest))) : W p l e R s m args below meth c H locs cells slots Q (F0 m pc ls (.int y :: .int x :: rest)) := by
  subst hv
  exact lv_ixor hexec hb hdg k
theorem nw_idiv (hexec : p.tables.exec = Jvm.exec) (hb : c.code = cc) {x y v : Int32} (hdg : decode cc pc = .ok (.idiv, 1)) (hne : ¬ y = 0) (hv : x / y = v)
    (k : W p l e R s m args below meth c H locs cells slots Q (F0 m (pc + 1) ls (.int v :: rest))) : W p l e R s m args below meth c H locs cells slots Q (F0 m pc ls (.int y :: .int x :: rest)) := by
  subst hv
  exact lv_idiv hexec hb hdg hne k
theorem nw_irem (hexec : p.tables.exec = Jvm.exec) (hb : c.code = cc) {x y v : Int32} (hdg : decode cc pc = .ok (.irem, 1)) (hne : ¬ y = 0) (hv : x - x / y * y = v)
    (k : W p l e R s m args below meth c H locs cells slots Q (F0 m (pc + 1) ls (.int v :: rest))) : W p l e R s m args below meth c H locs cells slots Q (F0 m pc ls (.int y :: .int x :: rest)) := by
  subst hv
  exact lv_irem hexec hb hdg hne k
theorem nw_ineg (hexec : p.tables.exec = Jvm.exec) (hb : c.code = cc) {x v : Int32} (hdg : decode cc pc = .ok (.ineg, 1)) (hv : -x = v)
    (k : W p l e R s m args below meth c H locs cells slots Q (F0 m (pc + 1) ls (.int v :: rest))) : W p l e R s m args below meth c H locs cells slots Q (F0 m pc ls (.int x :: rest)) := by
  subst hv
  exact lv_ineg hexec hb hdg k
theorem nw_ladd (hexec : p.tables.exec = Jvm.exec) (hb : c.code = cc) {x y v : Int64} (hdg : decode cc pc = .ok (.ladd, 1)) (hv : x + y = v)
    (k : W p l e R s m args below meth c H locs cells slots Q (F0 m (pc + 1) ls (.long v :: rest))) : W p l e R s m args below meth c H locs cells slots Q (F0 m pc ls (.long y :: .long x :: rest)) := by
  subst hv
  exact lv_ladd hexec hb hdg k
theorem nw_lsub (hexec : p.tables.exec = Jvm.exec) (hb : c.code = cc) {x y v : Int64} (hdg : decode cc pc = .ok (.lsub, 1)) (hv : x - y = v)
    (k : W p l e R s m args below meth c H locs cells slots Q (F0 m (pc + 1) ls (.long v :: rest))) : W p l e R s m args below meth c H locs cells slots Q (F0 m pc ls (.long y :: .long x :: rest)) := by
  subst hv
  exact lv_lsub hexec hb hdg k
theorem nw_lmul (hexec : p.tables.exec = Jvm.exec) (hb : c.code = cc) {x y v : Int64} (hdg : decode cc pc = .ok (.lmul, 1)) (hv : x * y = v)
    (k : W p l e R s m args below meth c H locs cells slots Q (F0 m (pc + 1) ls (.long v :: rest))) : W p l e R s m args below meth c H locs cells slots Q (F0 m pc ls (.long y :: .long x :: rest)) := by
  subst hv
  exact lv_lmul hexec hb hdg k
theorem nw_land (hexec : p.tables.exec = Jvm.exec) (hb : c.code = cc) {x y v : Int64} (hdg : decode cc pc = .ok (.land, 1)) (hv : x &&& y = v)
    (k : W p l e R s m args below meth c H locs cells slots Q (F0 m (pc + 1) ls (.long v :: rest))) : W p l e R s m args below meth c H locs cells slots Q (F0 m pc ls (.long y :: .long x :: rest)) := by
  subst hv
  exact lv_land hexec hb hdg k
theorem nw_lor (hexec : p.tables.exec = Jvm.exec) (hb : c.code = cc) {x y v : Int64} (hdg : decode cc pc = .ok (.lor, 1)) (hv : x ||| y = v)
    (k : W p l e R s m args below meth c H locs cells slots Q (F0 m (pc + 1) ls (.long v :: rest))) : W p l e R s m args below meth c H locs cells slots Q (F0 m pc ls (.long y :: .long x :: rest)) := by
  subst hv
  exact lv_lor hexec hb hdg k
theorem nw_lxor (hexec : p.tables.exec = Jvm.exec) (hb : c.code = cc) {x y v : Int64} (hdg : decode cc pc = .ok (.lxor, 1)) (hv : x ^^^ y = v)
    (k : W p l e R s m args below meth c H locs cells slots Q (F0 m (pc + 1) ls (.long v :: rest))) : W p l e R s m args below meth c H locs cells slots Q (F0 m pc ls (.long y :: .long x :: rest)) := by
  subst hv
  exact lv_lxor hexec hb hdg k
theorem nw_ldiv (hexec : p.tables.exec = Jvm.exec) (hb : c.code = cc) {x y v : Int64} (hdg : decode cc pc = .ok (.ldiv, 1)) (hne : ¬ y = 0) (hv : x / y = v)
    (k : W p l e R s m args below meth c H locs cells slots Q (F0 m (pc + 1) ls (.long v :: rest))) : W p l e R s m args below meth c H locs cells slots Q (F0 m pc ls (.long y :: .long x :: rest)) := by
  subst hv
  exact lv_ldiv hexec hb hdg hne k
theorem nw_lneg (hexec : p.tables.exec = Jvm.exec) (hb : c.code = cc) {x v : Int64} (hdg : decode cc pc = .ok (.lneg, 1)) (hv : -x = v)
    (k : W p l e R s m args below meth c H locs cells slots Q (F0 m (pc + 1) ls (.long v :: rest))) : W p l e R s m args below meth c H locs cells slots Q (F0 m pc ls (.long x :: rest)) := by
  subst hv
  exact lv_lneg hexec hb hdg k
theorem nw_ishl (hexec : p.tables.exec = Jvm.exec) (hb : c.code = cc) {x y v : Int32} (hdg : decode cc pc = .ok (.ishl, 1)) (hv : x <<< (y &&& 31) = v)
    (k : W p l e R s m args below meth c H locs cells slots Q (F0 m (pc + 1) ls (.int v :: rest))) : W p l e R s m args below meth c H locs cells slots Q (F0 m pc ls (.int y :: .int x :: rest)) := by
  subst hv
  exact lv_ishl hexec hb hdg k
theorem nw_ishr (hexec : p.tables.exec = Jvm.exec) (hb : c.code = cc) {x y v : Int32} (hdg : decode cc pc = .ok (.ishr, 1)) (hv : x >>> (y &&& 31) = v)
    (k : W p l e R s m args below meth c H locs cells slots Q (F0 m (pc + 1) ls (.int v :: rest))) : W p l e R s m args below meth c H locs cells slots Q (F0 m pc ls (.int y :: .int x :: rest)) := by
  subst hv
  exact lv_ishr hexec hb hdg k
end NW
end
section
/-! THE WORLD: the object, its ten numbers, spare and the three of the roots (numbers 0 to 13), the bench's row, pieces, tape, out. One list of 36 cells at the addresses ad 0 .. ad 35 -/
abbrev St : Type := (Nat → Nat → Int32) × (Nat → Nat) × (Nat → Int32) × (Nat → Int32) × (Nat → Int32) × (Nat → Int32) × Nat × Nat
def sW (w : St) : Nat → Nat → Int32 := w.1
def sL (w : St) : Nat → Nat := w.2.1
def sR (w : St) : Nat → Int32 := w.2.2.1
def sP (w : St) : Nat → Int32 := w.2.2.2.1
def sT (w : St) : Nat → Int32 := w.2.2.2.2.1
def sO (w : St) : Nat → Int32 := w.2.2.2.2.2.1
def sA (w : St) : Nat := w.2.2.2.2.2.2.1
def sB (w : St) : Nat := w.2.2.2.2.2.2.2
def pW (w : St) (i : Nat) (f : Nat → Int32) : St := (fun j => if j = i then f else sW w j, sL w, sR w, sP w, sT w, sO w, sA w, sB w)
def pL (w : St) (i n : Nat) : St := (sW w, fun j => if j = i then n else sL w j, sR w, sP w, sT w, sO w, sA w, sB w)
def pR (w : St) (f : Nat → Int32) : St := (sW w, sL w, f, sP w, sT w, sO w, sA w, sB w)
def pP (w : St) (f : Nat → Int32) : St := (sW w, sL w, sR w, f, sT w, sO w, sA w, sB w)
def pT (w : St) (f : Nat → Int32) : St := (sW w, sL w, sR w, sP w, f, sO w, sA w, sB w)
def pO (w : St) (f : Nat → Int32) : St := (sW w, sL w, sR w, sP w, sT w, f, sA w, sB w)
def pA (w : St) (n : Nat) : St := (sW w, sL w, sR w, sP w, sT w, sO w, n, sB w)
def pB (w : St) (n : Nat) : St := (sW w, sL w, sR w, sP w, sT w, sO w, sA w, n)
/-- what the cell of number k holds; cI, cB, cR: the array classes of ints, of bytes, of numbers -/
def wc (cI cB cR : ClassId) (ad : Nat → Nat) (w : St) (k : Nat) : va_E := match k with
  | 0 => .inr (0, [.ref (ad 1), .ref (ad 28), .ref (ad 2), .ref (ad 4), .ref (ad 5), .ref (ad 6), .ref (ad 7), .int (nI (sA w)), .int (nI (sB w))])
  | 1 => .inl (cR, 10, .inr (.inr (.inr (.inr (fun i => some (ad (2 * i + 8)))))))
  | 2 => .inr (2, [.ref (ad 3)])
  | 3 => .inl (cI, 28672, .inl (sR w))
  | 4 => .inr (3, [.ref (ad 30), .ref (ad 32), .ref (ad 34)])
  | 5 => .inl (cI, 4800, .inl (sP w))
  | 6 => .inl (cB, 4096, .inl (sT w))
  | 7 => .inl (cB, 20000, .inl (sO w))
  | k + 8 => if k % 2 = 0 then .inr (1, [.ref (ad (k + 9)), .int (nI (sL w (k / 2)))]) else .inl (cI, 6272, .inl (sW w (k / 2)))
def NC (cI cB cR : ClassId) (ad : Nat → Nat) (w : St) : va_W := (List.range 36).map (fun k => (ad k, wc cI cB cR ad w k))
abbrev tyA (cI cB cR : ClassId) : List (ClassId × FieldType) := [(cI, .int), (cB, .byte), (cR, .object "LimbWorks$Natural")]
section WD
variable {cI cB cR : ClassId} {ad : Nat → Nat} {w w' : St}
theorem NC_len : (NC cI cB cR ad w).length = 36 := by simp [NC]
theorem NC_at {k : Nat} (h : k < 36) : (NC cI cB cR ad w)[k]? = some (ad k, wc cI cB cR ad w k) := by
  unfold NC
  rw [List.getElem?_map, List.getElem?_range h]
  rfl
theorem NC_set {k : Nat} {e : va_E} (hk : k < 36) (he : wc cI cB cR ad w' k = e) (ho : ∀ j, j ≠ k → wc cI cB cR ad w' j = wc cI cB cR ad w j) : (NC cI cB cR ad w).set k (ad k, e) = NC cI cB cR ad w' := by
  apply List.ext_getElem?
  intro j
  rw [List.getElem?_set]
  by_cases hj : k = j
  · subst hj
    rw [if_pos rfl, if_pos (by rw [NC_len]; exact hk), NC_at hk, he]
  · rw [if_neg hj]
    by_cases h36 : j < 36
    · rw [NC_at h36, NC_at h36, ho j (fun q => hj q.symm)]
    · rw [List.getElem?_eq_none (by rw [NC_len]; omega), List.getElem?_eq_none (by rw [NC_len]; omega)]
theorem wc_o (i : Nat) : wc cI cB cR ad w (2 * i + 8) = .inr (1, [.ref (ad (2 * i + 9)), .int (nI (sL w i))]) := by
  show (if 2 * i % 2 = 0 then (.inr (1, [.ref (ad (2 * i + 9)), .int (nI (sL w (2 * i / 2)))]) : va_E) else _) = _
  rw [if_pos (by omega), show 2 * i / 2 = i by omega]
theorem wc_w (i : Nat) : wc cI cB cR ad w (2 * i + 9) = .inl (cI, 6272, .inl (sW w i)) := by
  show (if (2 * i + 1) % 2 = 0 then (.inr (1, [.ref (ad (2 * i + 1 + 9)), .int (nI (sL w ((2 * i + 1) / 2)))]) : va_E) else .inl (cI, 6272, .inl (sW w ((2 * i + 1) / 2)))) = _
  rw [if_neg (by omega), show (2 * i + 1) / 2 = i by omega]
theorem NC_o {i : Nat} (h : i < 14) : (NC cI cB cR ad w)[2 * i + 8]? = some (ad (2 * i + 8), .inr (1, [.ref (ad (2 * i + 9)), .int (nI (sL w i))])) := by rw [NC_at (by omega), wc_o]
theorem NC_w {i : Nat} (h : i < 14) : (NC cI cB cR ad w)[2 * i + 9]? = some (ad (2 * i + 9), .inl (cI, 6272, .inl (sW w i))) := by rw [NC_at (by omega), wc_w]
theorem wc_hi {k : Nat} (hL : ∀ i, sL w' i = sL w i ∨ k = 2 * i) (hW : ∀ i, sW w' i = sW w i ∨ k = 2 * i + 1) {j : Nat} (hj : j + 8 ≠ k + 8) : wc cI cB cR ad w' (j + 8) = wc cI cB cR ad w (j + 8) := by
  show (if j % 2 = 0 then (.inr (1, [.ref (ad (j + 9)), .int (nI (sL w' (j / 2)))]) : va_E) else .inl (cI, 6272, .inl (sW w' (j / 2)))) = (if j % 2 = 0 then (.inr (1, [.ref (ad (j + 9)), .int (nI (sL w (j / 2)))]) : va_E) else .inl (cI, 6272, .inl (sW w (j / 2))))
  by_cases h : j % 2 = 0
  · rw [if_pos h, if_pos h]
    rcases hL (j / 2) with q | q
    · rw [q]
    · omega
  · rw [if_neg h, if_neg h]
    rcases hW (j / 2) with q | q
    · rw [q]
    · omega
theorem NC_pL {i n : Nat} (hi : i < 14) : (NC cI cB cR ad w).set (2 * i + 8) (ad (2 * i + 8), .inr (1, [.ref (ad (2 * i + 9)), .int (nI n)])) = NC cI cB cR ad (pL w i n) := by
  refine NC_set (by omega) ?_ ?_
  · rw [wc_o]
    show (.inr (1, [.ref (ad (2 * i + 9)), .int (nI (if i = i then n else sL w i))]) : va_E) = _
    rw [if_pos rfl]
  · intro j hj
    match j, hj with
    | 0, _ | 1, _ | 2, _ | 3, _ | 4, _ | 5, _ | 6, _ | 7, _ => rfl
    | j + 8, hj =>
      refine wc_hi (w := w) (w' := pL w i n) (k := 2 * i) (fun a => ?_) (fun a => Or.inl rfl) hj
      show (if a = i then n else sL w a) = sL w a ∨ _
      by_cases h : a = i
      · right; rw [h]
      · left; rw [if_neg h]
theorem NC_pW {i : Nat} {f : Nat → Int32} (hi : i < 14) : (NC cI cB cR ad w).set (2 * i + 9) (ad (2 * i + 9), .inl (cI, 6272, .inl f)) = NC cI cB cR ad (pW w i f) := by
  refine NC_set (by omega) ?_ ?_
  · rw [wc_w]
    show (.inl (cI, 6272, .inl (if i = i then f else sW w i)) : va_E) = _
    rw [if_pos rfl]
  · intro j hj
    match j, hj with
    | 0, _ | 1, _ | 2, _ | 3, _ | 4, _ | 5, _ | 6, _ | 7, _ => rfl
    | j + 8, hj =>
      refine wc_hi (w := w) (w' := pW w i f) (k := 2 * i + 1) (fun a => Or.inl rfl) (fun a => ?_) hj
      show (if a = i then f else sW w a) = sW w a ∨ _
      by_cases h : a = i
      · right; rw [h]
      · left; rw [if_neg h]
theorem NC_pR (f : Nat → Int32) : (NC cI cB cR ad w).set 3 (ad 3, .inl (cI, 28672, .inl f)) = NC cI cB cR ad (pR w f) := by
  refine NC_set (by omega) rfl ?_
  intro j hj
  match j, hj with
  | 0, _ | 1, _ | 2, _ | 4, _ | 5, _ | 6, _ | 7, _ => rfl
  | 3, hj => exact absurd rfl hj
  | j + 8, hj => rfl
theorem NC_pP (f : Nat → Int32) : (NC cI cB cR ad w).set 5 (ad 5, .inl (cI, 4800, .inl f)) = NC cI cB cR ad (pP w f) := by
  refine NC_set (by omega) rfl ?_
  intro j hj
  match j, hj with
  | 0, _ | 1, _ | 2, _ | 3, _ | 4, _ | 6, _ | 7, _ => rfl
  | 5, hj => exact absurd rfl hj
  | j + 8, hj => rfl
theorem NC_pT (f : Nat → Int32) : (NC cI cB cR ad w).set 6 (ad 6, .inl (cB, 4096, .inl f)) = NC cI cB cR ad (pT w f) := by
  refine NC_set (by omega) rfl ?_
  intro j hj
  match j, hj with
  | 0, _ | 1, _ | 2, _ | 3, _ | 4, _ | 5, _ | 7, _ => rfl
  | 6, hj => exact absurd rfl hj
  | j + 8, hj => rfl
theorem NC_pO (f : Nat → Int32) : (NC cI cB cR ad w).set 7 (ad 7, .inl (cB, 20000, .inl f)) = NC cI cB cR ad (pO w f) := by
  refine NC_set (by omega) rfl ?_
  intro j hj
  match j, hj with
  | 0, _ | 1, _ | 2, _ | 3, _ | 4, _ | 5, _ | 6, _ => rfl
  | 7, hj => exact absurd rfl hj
  | j + 8, hj => rfl
theorem NC_pA (n : Nat) : (NC cI cB cR ad w).set 0 (ad 0, .inr (0, [.ref (ad 1), .ref (ad 28), .ref (ad 2), .ref (ad 4), .ref (ad 5), .ref (ad 6), .ref (ad 7), .int (nI n), .int (nI (sB w))])) = NC cI cB cR ad (pA w n) := by
  refine NC_set (by omega) rfl ?_
  intro j hj
  match j, hj with
  | 0, hj => exact absurd rfl hj
  | 1, _ | 2, _ | 3, _ | 4, _ | 5, _ | 6, _ | 7, _ => rfl
  | j + 8, hj => rfl
theorem NC_pB (n : Nat) : (NC cI cB cR ad w).set 0 (ad 0, .inr (0, [.ref (ad 1), .ref (ad 28), .ref (ad 2), .ref (ad 4), .ref (ad 5), .ref (ad 6), .ref (ad 7), .int (nI (sA w)), .int (nI n)])) = NC cI cB cR ad (pB w n) := by
  refine NC_set (by omega) rfl ?_
  intro j hj
  match j, hj with
  | 0, hj => exact absurd rfl hj
  | 1, _ | 2, _ | 3, _ | 4, _ | 5, _ | 6, _ | 7, _ => rfl
  | j + 8, hj => rfl
theorem sL_pL (w : St) (i n : Nat) : sL (pL w i n) i = n := if_pos rfl
theorem sL_pLn (w : St) {i j : Nat} (n : Nat) (h : j ≠ i) : sL (pL w i n) j = sL w j := if_neg h
theorem sW_pW (w : St) (i : Nat) (f : Nat → Int32) : sW (pW w i f) i = f := if_pos rfl
theorem sW_pWn (w : St) {i j : Nat} (f : Nat → Int32) (h : j ≠ i) : sW (pW w i f) j = sW w j := if_neg h
theorem pL_pL (w : St) (i a b : Nat) : pL (pL w i a) i b = pL w i b := by
  have : (fun j => if j = i then b else (if j = i then a else sL w j)) = fun j => if j = i then b else sL w j := by
    funext j
    by_cases h : j = i
    · rw [if_pos h, if_pos h]
    · rw [if_neg h, if_neg h, if_neg h]
  show (sW w, (fun j => if j = i then b else (if j = i then a else sL w j)), _) = _
  rw [this]
  rfl
theorem pW_pW (w : St) (i : Nat) (f g : Nat → Int32) : pW (pW w i f) i g = pW w i g := by
  have : (fun j => if j = i then g else (if j = i then f else sW w j)) = fun j => if j = i then g else sW w j := by
    funext j
    by_cases h : j = i
    · rw [if_pos h, if_pos h]
    · rw [if_neg h, if_neg h, if_neg h]
  show ((fun j => if j = i then g else (if j = i then f else sW w j)), _) = _
  rw [this]
  rfl
theorem pL_self (w : St) (i : Nat) : pL w i (sL w i) = w := by
  have : (fun j => if j = i then sL w i else sL w j) = sL w := by
    funext j
    by_cases h : j = i
    · rw [if_pos h, h]
    · rw [if_neg h]
  show (sW w, (fun j => if j = i then sL w i else sL w j), _) = _
  rw [this]
  rfl
theorem pW_self (w : St) (i : Nat) : pW w i (sW w i) = w := by
  have : (fun j => if j = i then sW w i else sW w j) = sW w := by
    funext j
    by_cases h : j = i
    · rw [if_pos h, h]
    · rw [if_neg h]
  show ((fun j => if j = i then sW w i else sW w j), _) = _
  rw [this]
  rfl
theorem pR_self (w : St) : pR w (sR w) = w := rfl
end WD
section WR
variable {p : Program} {l : Launch} {e : Env} {R : Room} {s : State} {m : MethodId} {args : Array Value} {below : List Frame} {meth : Method} {c : Code} {H : Heap} {locs : List Loc} {cells slots : Nat} {Q : State → Prop}
variable {cc : ByteArray} {pc : Nat} {ls : Array Slot} {rest : List Value} {D : va_G} {A : Nat → Prop} {H0 : Heap} {cI cB cR : ClassId} {ad : Nat → Nat} {w : St} {own : String} {index : Nat} {c0 : Cond}
theorem nw_gL (hexec : p.tables.exec = Jvm.exec) (hb : c.code = cc) (hts : ∀ w ∈ c0 :: wA, w.before args s = true) (hown : s.vm.findClass own = some m.cls) (hK : va_K D clA (tyA cI cB cR) s) (hP : va_P D clA (NC cI cB cR ad w) H) {i : Nat} (hi : i < 14) {n : Nat} (hv : sL w i = n) (hlink : Cond.fieldLink own index "LimbWorks$Natural" "length" "I" ∈ wA) (hdg : decode cc pc = .ok (.getfield index, 3))
    (kk : W p l e R s m args below meth c H locs cells slots Q (F0 m (pc + 3) ls (.int (nI n) :: rest))) : W p l e R s m args below meth c H locs cells slots Q (F0 m pc ls (.ref (ad (2 * i + 8)) :: rest)) := by
  subst hv
  exact va_get (ref := "LimbWorks$Natural") (C := R_Na) (T := F_Na) (N := 2) (ci := 1) hexec hb hts (fun w h => List.mem_cons_of_mem _ (i_Na w h)) hown hK hP (2 * i + 8) (NC_o hi) rfl 1 (by decide) (hA_ hts hlink) (fun _ h => h) rfl hdg kk
theorem nw_gW (hexec : p.tables.exec = Jvm.exec) (hb : c.code = cc) (hts : ∀ w ∈ c0 :: wA, w.before args s = true) (hown : s.vm.findClass own = some m.cls) (hK : va_K D clA (tyA cI cB cR) s) (hP : va_P D clA (NC cI cB cR ad w) H) {i : Nat} (hi : i < 14) (hlink : Cond.fieldLink own index "LimbWorks$Natural" "words" "[I" ∈ wA) (hdg : decode cc pc = .ok (.getfield index, 3))
    (kk : W p l e R s m args below meth c H locs cells slots Q (F0 m (pc + 3) ls (.ref (ad (2 * i + 9)) :: rest))) : W p l e R s m args below meth c H locs cells slots Q (F0 m pc ls (.ref (ad (2 * i + 8)) :: rest)) :=
  va_get (ref := "LimbWorks$Natural") (C := R_Na) (T := F_Na) (N := 2) (ci := 1) hexec hb hts (fun w h => List.mem_cons_of_mem _ (i_Na w h)) hown hK hP (2 * i + 8) (NC_o hi) rfl 0 (by decide) (hA_ hts hlink) (fun _ h => h) rfl hdg kk
theorem nw_gR (hexec : p.tables.exec = Jvm.exec) (hb : c.code = cc) (hts : ∀ w ∈ c0 :: wA, w.before args s = true) (hown : s.vm.findClass own = some m.cls) (hK : va_K D clA (tyA cI cB cR) s) (hP : va_P D clA (NC cI cB cR ad w) H) (hlink : Cond.fieldLink own index "LimbWorks$Bench" "row" "[I" ∈ wA) (hdg : decode cc pc = .ok (.getfield index, 3))
    (kk : W p l e R s m args below meth c H locs cells slots Q (F0 m (pc + 3) ls (.ref (ad 3) :: rest))) : W p l e R s m args below meth c H locs cells slots Q (F0 m pc ls (.ref (ad 2) :: rest)) :=
  va_get (ref := "LimbWorks$Bench") (C := R_Be) (T := F_Be) (N := 1) (ci := 2) hexec hb hts (fun w h => List.mem_cons_of_mem _ (i_Be w h)) hown hK hP 2 (NC_at (by decide)) rfl 0 (by decide) (hA_ hts hlink) (fun _ h => h) rfl hdg kk
theorem nw_gO0 (hexec : p.tables.exec = Jvm.exec) (hb : c.code = cc) (hts : ∀ w ∈ c0 :: wA, w.before args s = true) (hown : s.vm.findClass own = some m.cls) (hK : va_K D clA (tyA cI cB cR) s) (hP : va_P D clA (NC cI cB cR ad w) H) (hlink : Cond.fieldLink own index "LimbWorks$Roots" "lesser" "LLimbWorks$Natural;" ∈ wA) (hdg : decode cc pc = .ok (.getfield index, 3))
    (kk : W p l e R s m args below meth c H locs cells slots Q (F0 m (pc + 3) ls (.ref (ad 30) :: rest))) : W p l e R s m args below meth c H locs cells slots Q (F0 m pc ls (.ref (ad 4) :: rest)) :=
  va_get (ref := "LimbWorks$Roots") (C := R_Ro) (T := F_Ro) (N := 3) (ci := 3) hexec hb hts (fun w h => List.mem_cons_of_mem _ (i_Ro w h)) hown hK hP 4 (NC_at (by decide)) rfl 0 (by decide) (hA_ hts hlink) (fun _ h => h) rfl hdg kk
theorem nw_gO1 (hexec : p.tables.exec = Jvm.exec) (hb : c.code = cc) (hts : ∀ w ∈ c0 :: wA, w.before args s = true) (hown : s.vm.findClass own = some m.cls) (hK : va_K D clA (tyA cI cB cR) s) (hP : va_P D clA (NC cI cB cR ad w) H) (hlink : Cond.fieldLink own index "LimbWorks$Roots" "whole" "LLimbWorks$Natural;" ∈ wA) (hdg : decode cc pc = .ok (.getfield index, 3))
    (kk : W p l e R s m args below meth c H locs cells slots Q (F0 m (pc + 3) ls (.ref (ad 32) :: rest))) : W p l e R s m args below meth c H locs cells slots Q (F0 m pc ls (.ref (ad 4) :: rest)) :=
  va_get (ref := "LimbWorks$Roots") (C := R_Ro) (T := F_Ro) (N := 3) (ci := 3) hexec hb hts (fun w h => List.mem_cons_of_mem _ (i_Ro w h)) hown hK hP 4 (NC_at (by decide)) rfl 1 (by decide) (hA_ hts hlink) (fun _ h => h) rfl hdg kk
theorem nw_gO2 (hexec : p.tables.exec = Jvm.exec) (hb : c.code = cc) (hts : ∀ w ∈ c0 :: wA, w.before args s = true) (hown : s.vm.findClass own = some m.cls) (hK : va_K D clA (tyA cI cB cR) s) (hP : va_P D clA (NC cI cB cR ad w) H) (hlink : Cond.fieldLink own index "LimbWorks$Roots" "part" "LLimbWorks$Natural;" ∈ wA) (hdg : decode cc pc = .ok (.getfield index, 3))
    (kk : W p l e R s m args below meth c H locs cells slots Q (F0 m (pc + 3) ls (.ref (ad 34) :: rest))) : W p l e R s m args below meth c H locs cells slots Q (F0 m pc ls (.ref (ad 4) :: rest)) :=
  va_get (ref := "LimbWorks$Roots") (C := R_Ro) (T := F_Ro) (N := 3) (ci := 3) hexec hb hts (fun w h => List.mem_cons_of_mem _ (i_Ro w h)) hown hK hP 4 (NC_at (by decide)) rfl 2 (by decide) (hA_ hts hlink) (fun _ h => h) rfl hdg kk
theorem nw_gF0 (hexec : p.tables.exec = Jvm.exec) (hb : c.code = cc) (hts : ∀ w ∈ c0 :: wA, w.before args s = true) (hown : s.vm.findClass own = some m.cls) (hK : va_K D clA (tyA cI cB cR) s) (hP : va_P D clA (NC cI cB cR ad w) H) (hlink : Cond.fieldLink own index "LimbWorks" "registers" "[LLimbWorks$Natural;" ∈ wA) (hdg : decode cc pc = .ok (.getfield index, 3))
    (kk : W p l e R s m args below meth c H locs cells slots Q (F0 m (pc + 3) ls (.ref (ad 1) :: rest))) : W p l e R s m args below meth c H locs cells slots Q (F0 m pc ls (.ref (ad 0) :: rest)) :=
  va_get (ref := "LimbWorks") (C := R_Lw) (T := F_Lw) (N := 9) (ci := 0) hexec hb hts (fun w h => List.mem_cons_of_mem _ (i_Lw w h)) hown hK hP 0 (NC_at (by decide)) rfl 0 (by decide) (hA_ hts hlink) (fun _ h => h) rfl hdg kk
theorem nw_gF1 (hexec : p.tables.exec = Jvm.exec) (hb : c.code = cc) (hts : ∀ w ∈ c0 :: wA, w.before args s = true) (hown : s.vm.findClass own = some m.cls) (hK : va_K D clA (tyA cI cB cR) s) (hP : va_P D clA (NC cI cB cR ad w) H) (hlink : Cond.fieldLink own index "LimbWorks" "spare" "LLimbWorks$Natural;" ∈ wA) (hdg : decode cc pc = .ok (.getfield index, 3))
    (kk : W p l e R s m args below meth c H locs cells slots Q (F0 m (pc + 3) ls (.ref (ad 28) :: rest))) : W p l e R s m args below meth c H locs cells slots Q (F0 m pc ls (.ref (ad 0) :: rest)) :=
  va_get (ref := "LimbWorks") (C := R_Lw) (T := F_Lw) (N := 9) (ci := 0) hexec hb hts (fun w h => List.mem_cons_of_mem _ (i_Lw w h)) hown hK hP 0 (NC_at (by decide)) rfl 1 (by decide) (hA_ hts hlink) (fun _ h => h) rfl hdg kk
theorem nw_gF2 (hexec : p.tables.exec = Jvm.exec) (hb : c.code = cc) (hts : ∀ w ∈ c0 :: wA, w.before args s = true) (hown : s.vm.findClass own = some m.cls) (hK : va_K D clA (tyA cI cB cR) s) (hP : va_P D clA (NC cI cB cR ad w) H) (hlink : Cond.fieldLink own index "LimbWorks" "bench" "LLimbWorks$Bench;" ∈ wA) (hdg : decode cc pc = .ok (.getfield index, 3))
    (kk : W p l e R s m args below meth c H locs cells slots Q (F0 m (pc + 3) ls (.ref (ad 2) :: rest))) : W p l e R s m args below meth c H locs cells slots Q (F0 m pc ls (.ref (ad 0) :: rest)) :=
  va_get (ref := "LimbWorks") (C := R_Lw) (T := F_Lw) (N := 9) (ci := 0) hexec hb hts (fun w h => List.mem_cons_of_mem _ (i_Lw w h)) hown hK hP 0 (NC_at (by decide)) rfl 2 (by decide) (hA_ hts hlink) (fun _ h => h) rfl hdg kk
theorem nw_gF3 (hexec : p.tables.exec = Jvm.exec) (hb : c.code = cc) (hts : ∀ w ∈ c0 :: wA, w.before args s = true) (hown : s.vm.findClass own = some m.cls) (hK : va_K D clA (tyA cI cB cR) s) (hP : va_P D clA (NC cI cB cR ad w) H) (hlink : Cond.fieldLink own index "LimbWorks" "roots" "LLimbWorks$Roots;" ∈ wA) (hdg : decode cc pc = .ok (.getfield index, 3))
    (kk : W p l e R s m args below meth c H locs cells slots Q (F0 m (pc + 3) ls (.ref (ad 4) :: rest))) : W p l e R s m args below meth c H locs cells slots Q (F0 m pc ls (.ref (ad 0) :: rest)) :=
  va_get (ref := "LimbWorks") (C := R_Lw) (T := F_Lw) (N := 9) (ci := 0) hexec hb hts (fun w h => List.mem_cons_of_mem _ (i_Lw w h)) hown hK hP 0 (NC_at (by decide)) rfl 3 (by decide) (hA_ hts hlink) (fun _ h => h) rfl hdg kk
theorem nw_gF4 (hexec : p.tables.exec = Jvm.exec) (hb : c.code = cc) (hts : ∀ w ∈ c0 :: wA, w.before args s = true) (hown : s.vm.findClass own = some m.cls) (hK : va_K D clA (tyA cI cB cR) s) (hP : va_P D clA (NC cI cB cR ad w) H) (hlink : Cond.fieldLink own index "LimbWorks" "pieces" "[I" ∈ wA) (hdg : decode cc pc = .ok (.getfield index, 3))
    (kk : W p l e R s m args below meth c H locs cells slots Q (F0 m (pc + 3) ls (.ref (ad 5) :: rest))) : W p l e R s m args below meth c H locs cells slots Q (F0 m pc ls (.ref (ad 0) :: rest)) :=
  va_get (ref := "LimbWorks") (C := R_Lw) (T := F_Lw) (N := 9) (ci := 0) hexec hb hts (fun w h => List.mem_cons_of_mem _ (i_Lw w h)) hown hK hP 0 (NC_at (by decide)) rfl 4 (by decide) (hA_ hts hlink) (fun _ h => h) rfl hdg kk
theorem nw_gF5 (hexec : p.tables.exec = Jvm.exec) (hb : c.code = cc) (hts : ∀ w ∈ c0 :: wA, w.before args s = true) (hown : s.vm.findClass own = some m.cls) (hK : va_K D clA (tyA cI cB cR) s) (hP : va_P D clA (NC cI cB cR ad w) H) (hlink : Cond.fieldLink own index "LimbWorks" "tape" "[B" ∈ wA) (hdg : decode cc pc = .ok (.getfield index, 3))
    (kk : W p l e R s m args below meth c H locs cells slots Q (F0 m (pc + 3) ls (.ref (ad 6) :: rest))) : W p l e R s m args below meth c H locs cells slots Q (F0 m pc ls (.ref (ad 0) :: rest)) :=
  va_get (ref := "LimbWorks") (C := R_Lw) (T := F_Lw) (N := 9) (ci := 0) hexec hb hts (fun w h => List.mem_cons_of_mem _ (i_Lw w h)) hown hK hP 0 (NC_at (by decide)) rfl 5 (by decide) (hA_ hts hlink) (fun _ h => h) rfl hdg kk
theorem nw_gF6 (hexec : p.tables.exec = Jvm.exec) (hb : c.code = cc) (hts : ∀ w ∈ c0 :: wA, w.before args s = true) (hown : s.vm.findClass own = some m.cls) (hK : va_K D clA (tyA cI cB cR) s) (hP : va_P D clA (NC cI cB cR ad w) H) (hlink : Cond.fieldLink own index "LimbWorks" "out" "[B" ∈ wA) (hdg : decode cc pc = .ok (.getfield index, 3))
    (kk : W p l e R s m args below meth c H locs cells slots Q (F0 m (pc + 3) ls (.ref (ad 7) :: rest))) : W p l e R s m args below meth c H locs cells slots Q (F0 m pc ls (.ref (ad 0) :: rest)) :=
  va_get (ref := "LimbWorks") (C := R_Lw) (T := F_Lw) (N := 9) (ci := 0) hexec hb hts (fun w h => List.mem_cons_of_mem _ (i_Lw w h)) hown hK hP 0 (NC_at (by decide)) rfl 6 (by decide) (hA_ hts hlink) (fun _ h => h) rfl hdg kk
theorem nw_gF7 (hexec : p.tables.exec = Jvm.exec) (hb : c.code = cc) (hts : ∀ w ∈ c0 :: wA, w.before args s = true) (hown : s.vm.findClass own = some m.cls) (hK : va_K D clA (tyA cI cB cR) s) (hP : va_P D clA (NC cI cB cR ad w) H) {n : Nat} (hv : sA w = n) (hlink : Cond.fieldLink own index "LimbWorks" "tapeLength" "I" ∈ wA) (hdg : decode cc pc = .ok (.getfield index, 3))
    (kk : W p l e R s m args below meth c H locs cells slots Q (F0 m (pc + 3) ls (.int (nI n) :: rest))) : W p l e R s m args below meth c H locs cells slots Q (F0 m pc ls (.ref (ad 0) :: rest)) := by
  subst hv
  exact va_get (ref := "LimbWorks") (C := R_Lw) (T := F_Lw) (N := 9) (ci := 0) hexec hb hts (fun w h => List.mem_cons_of_mem _ (i_Lw w h)) hown hK hP 0 (NC_at (by decide)) rfl 7 (by decide) (hA_ hts hlink) (fun _ h => h) rfl hdg kk
theorem nw_gF8 (hexec : p.tables.exec = Jvm.exec) (hb : c.code = cc) (hts : ∀ w ∈ c0 :: wA, w.before args s = true) (hown : s.vm.findClass own = some m.cls) (hK : va_K D clA (tyA cI cB cR) s) (hP : va_P D clA (NC cI cB cR ad w) H) {n : Nat} (hv : sB w = n) (hlink : Cond.fieldLink own index "LimbWorks" "outLength" "I" ∈ wA) (hdg : decode cc pc = .ok (.getfield index, 3))
    (kk : W p l e R s m args below meth c H locs cells slots Q (F0 m (pc + 3) ls (.int (nI n) :: rest))) : W p l e R s m args below meth c H locs cells slots Q (F0 m pc ls (.ref (ad 0) :: rest)) := by
  subst hv
  exact va_get (ref := "LimbWorks") (C := R_Lw) (T := F_Lw) (N := 9) (ci := 0) hexec hb hts (fun w h => List.mem_cons_of_mem _ (i_Lw w h)) hown hK hP 0 (NC_at (by decide)) rfl 8 (by decide) (hA_ hts hlink) (fun _ h => h) rfl hdg kk
theorem nw_pL (hexec : p.tables.exec = Jvm.exec) (hb : c.code = cc) (hts : ∀ w ∈ c0 :: wA, w.before args s = true) (hown : s.vm.findClass own = some m.cls) (hK : va_K D clA (tyA cI cB cR) s) (hP : va_P D clA (NC cI cB cR ad w) H) (hD : va_D A (NC cI cB cR ad w)) (hS : va_S A H0 H locs) {i : Nat} (hi : i < 14) {n : Nat} (hlink : Cond.fieldLink own index "LimbWorks$Natural" "length" "I" ∈ wA) (hdg : decode cc pc = .ok (.putfield index, 3))
    (kk : ∀ (H1 : Heap) (locs1 : List Loc), va_P D clA (NC cI cB cR ad (pL w i n)) H1 → va_D A (NC cI cB cR ad (pL w i n)) → va_S A H0 H1 locs1 → W p l e R s m args below meth c H1 locs1 cells slots Q (F0 m (pc + 3) ls rest)) : W p l e R s m args below meth c H locs cells slots Q (F0 m pc ls (.int (nI n) :: .ref (ad (2 * i + 8)) :: rest)) :=
  va_put (ref := "LimbWorks$Natural") (C := R_Na) (T := F_Na) (N := 2) (ci := 1) (ty := .int) hexec hb hts (fun w h => List.mem_cons_of_mem _ (i_Na w h)) t_Na t_Na_ok n_Na hown hK hP hD hS (2 * i + 8) (NC_o hi) rfl 1 (by decide) (hA_ hts hlink) (fun _ h => h) rfl (by decide +kernel) rfl rfl (Nat.le_of_ble_eq_true rfl) hdg
    (fun H1 locs1 h1 h2 h3 => kk H1 locs1 (NC_pL hi ▸ h1) (NC_pL hi ▸ h2) h3)
theorem nw_pA (hexec : p.tables.exec = Jvm.exec) (hb : c.code = cc) (hts : ∀ w ∈ c0 :: wA, w.before args s = true) (hown : s.vm.findClass own = some m.cls) (hK : va_K D clA (tyA cI cB cR) s) (hP : va_P D clA (NC cI cB cR ad w) H) (hD : va_D A (NC cI cB cR ad w)) (hS : va_S A H0 H locs) {n : Nat} (hlink : Cond.fieldLink own index "LimbWorks" "tapeLength" "I" ∈ wA) (hdg : decode cc pc = .ok (.putfield index, 3))
    (kk : ∀ (H1 : Heap) (locs1 : List Loc), va_P D clA (NC cI cB cR ad (pA w n)) H1 → va_D A (NC cI cB cR ad (pA w n)) → va_S A H0 H1 locs1 → W p l e R s m args below meth c H1 locs1 cells slots Q (F0 m (pc + 3) ls rest)) : W p l e R s m args below meth c H locs cells slots Q (F0 m pc ls (.int (nI n) :: .ref (ad 0) :: rest)) :=
  va_put (ref := "LimbWorks") (C := R_Lw) (T := F_Lw) (N := 9) (ci := 0) (ty := .int) hexec hb hts (fun w h => List.mem_cons_of_mem _ (i_Lw w h)) t_Lw t_Lw_ok n_Lw hown hK hP hD hS 0 (NC_at (by decide)) rfl 7 (by decide) (hA_ hts hlink) (fun _ h => h) rfl (by decide +kernel) rfl rfl (Nat.le_of_ble_eq_true rfl) hdg
    (fun H1 locs1 h1 h2 h3 => kk H1 locs1 (NC_pA n ▸ h1) (NC_pA n ▸ h2) h3)
theorem nw_pB (hexec : p.tables.exec = Jvm.exec) (hb : c.code = cc) (hts : ∀ w ∈ c0 :: wA, w.before args s = true) (hown : s.vm.findClass own = some m.cls) (hK : va_K D clA (tyA cI cB cR) s) (hP : va_P D clA (NC cI cB cR ad w) H) (hD : va_D A (NC cI cB cR ad w)) (hS : va_S A H0 H locs) {n : Nat} (hlink : Cond.fieldLink own index "LimbWorks" "outLength" "I" ∈ wA) (hdg : decode cc pc = .ok (.putfield index, 3))
    (kk : ∀ (H1 : Heap) (locs1 : List Loc), va_P D clA (NC cI cB cR ad (pB w n)) H1 → va_D A (NC cI cB cR ad (pB w n)) → va_S A H0 H1 locs1 → W p l e R s m args below meth c H1 locs1 cells slots Q (F0 m (pc + 3) ls rest)) : W p l e R s m args below meth c H locs cells slots Q (F0 m pc ls (.int (nI n) :: .ref (ad 0) :: rest)) :=
  va_put (ref := "LimbWorks") (C := R_Lw) (T := F_Lw) (N := 9) (ci := 0) (ty := .int) hexec hb hts (fun w h => List.mem_cons_of_mem _ (i_Lw w h)) t_Lw t_Lw_ok n_Lw hown hK hP hD hS 0 (NC_at (by decide)) rfl 8 (by decide) (hA_ hts hlink) (fun _ h => h) rfl (by decide +kernel) rfl rfl (Nat.le_of_ble_eq_true rfl) hdg
    (fun H1 locs1 h1 h2 h3 => kk H1 locs1 (NC_pB n ▸ h1) (NC_pB n ▸ h2) h3)
theorem nw_lW (hexec : p.tables.exec = Jvm.exec) (hb : c.code = cc) (hK : va_K D clA (tyA cI cB cR) s) (hP : va_P D clA (NC cI cB cR ad w) H) {i : Nat} (hi : i < 14) {j : Nat} (hj : j < 6272) {x : Int32} (hv : sW w i j = x) (hdg : decode cc pc = .ok (.iaload, 1))
    (kk : W p l e R s m args below meth c H locs cells slots Q (F0 m (pc + 1) ls (.int x :: rest))) : W p l e R s m args below meth c H locs cells slots Q (F0 m pc ls (.int (nI j) :: .ref (ad (2 * i + 9)) :: rest)) := by
  subst hv
  refine va_iald hexec hb hK hP (2 * i + 9) 0 (NC_w hi) rfl (vp_in_nI hj (by decide)) hdg ?_
  rw [nI_clamp (by omega)]
  exact kk
theorem nw_lR (hexec : p.tables.exec = Jvm.exec) (hb : c.code = cc) (hK : va_K D clA (tyA cI cB cR) s) (hP : va_P D clA (NC cI cB cR ad w) H) {j : Nat} (hj : j < 28672) {x : Int32} (hv : sR w j = x) (hdg : decode cc pc = .ok (.iaload, 1))
    (kk : W p l e R s m args below meth c H locs cells slots Q (F0 m (pc + 1) ls (.int x :: rest))) : W p l e R s m args below meth c H locs cells slots Q (F0 m pc ls (.int (nI j) :: .ref (ad 3) :: rest)) := by
  subst hv
  refine va_iald hexec hb hK hP 3 0 (NC_at (by decide)) rfl (vp_in_nI hj (by decide)) hdg ?_
  rw [nI_clamp (by omega)]
  exact kk
theorem nw_lP (hexec : p.tables.exec = Jvm.exec) (hb : c.code = cc) (hK : va_K D clA (tyA cI cB cR) s) (hP : va_P D clA (NC cI cB cR ad w) H) {j : Nat} (hj : j < 4800) {x : Int32} (hv : sP w j = x) (hdg : decode cc pc = .ok (.iaload, 1))
    (kk : W p l e R s m args below meth c H locs cells slots Q (F0 m (pc + 1) ls (.int x :: rest))) : W p l e R s m args below meth c H locs cells slots Q (F0 m pc ls (.int (nI j) :: .ref (ad 5) :: rest)) := by
  subst hv
  refine va_iald hexec hb hK hP 5 0 (NC_at (by decide)) rfl (vp_in_nI hj (by decide)) hdg ?_
  rw [nI_clamp (by omega)]
  exact kk
theorem nw_lT (hexec : p.tables.exec = Jvm.exec) (hb : c.code = cc) (hK : va_K D clA (tyA cI cB cR) s) (hP : va_P D clA (NC cI cB cR ad w) H) {j : Nat} (hj : j < 4096) {x : Int32} (hv : sT w j = x) (hdg : decode cc pc = .ok (.baload, 1))
    (kk : W p l e R s m args below meth c H locs cells slots Q (F0 m (pc + 1) ls (.int x :: rest))) : W p l e R s m args below meth c H locs cells slots Q (F0 m pc ls (.int (nI j) :: .ref (ad 6) :: rest)) := by
  subst hv
  refine va_bald hexec hb hK hP 6 1 (NC_at (by decide)) rfl (vp_in_nI hj (by decide)) hdg ?_
  rw [nI_clamp (by omega)]
  exact kk
theorem nw_lO (hexec : p.tables.exec = Jvm.exec) (hb : c.code = cc) (hK : va_K D clA (tyA cI cB cR) s) (hP : va_P D clA (NC cI cB cR ad w) H) {j : Nat} (hj : j < 20000) {x : Int32} (hv : sO w j = x) (hdg : decode cc pc = .ok (.baload, 1))
    (kk : W p l e R s m args below meth c H locs cells slots Q (F0 m (pc + 1) ls (.int x :: rest))) : W p l e R s m args below meth c H locs cells slots Q (F0 m pc ls (.int (nI j) :: .ref (ad 7) :: rest)) := by
  subst hv
  refine va_bald hexec hb hK hP 7 1 (NC_at (by decide)) rfl (vp_in_nI hj (by decide)) hdg ?_
  rw [nI_clamp (by omega)]
  exact kk
theorem nw_lG (hexec : p.tables.exec = Jvm.exec) (hb : c.code = cc) (hK : va_K D clA (tyA cI cB cR) s) (hP : va_P D clA (NC cI cB cR ad w) H) {j : Nat} (hj : j < 10) (hdg : decode cc pc = .ok (.aaload, 1))
    (kk : W p l e R s m args below meth c H locs cells slots Q (F0 m (pc + 1) ls (.ref (ad (2 * j + 8)) :: rest))) : W p l e R s m args below meth c H locs cells slots Q (F0 m pc ls (.int (nI j) :: .ref (ad 1) :: rest)) := by
  refine va_aldq hexec hb hK hP 1 2 (NC_at (by decide)) rfl (vp_in_nI hj (by decide)) hdg ?_
  rw [nI_clamp (by omega)]
  exact kk
theorem nw_sW (hexec : p.tables.exec = Jvm.exec) (hb : c.code = cc) (hK : va_K D clA (tyA cI cB cR) s) (hP : va_P D clA (NC cI cB cR ad w) H) (hD : va_D A (NC cI cB cR ad w)) (hS : va_S A H0 H locs) {i : Nat} (hi : i < 14) {j : Nat} {x : Int32} (hj : j < 6272) (hdg : decode cc pc = .ok (.iastore, 1))
    (kk : ∀ (H1 : Heap) (locs1 : List Loc), va_P D clA (NC cI cB cR ad (pW w i (upd (sW w i) j x))) H1 → va_D A (NC cI cB cR ad (pW w i (upd (sW w i) j x))) → va_S A H0 H1 locs1 → W p l e R s m args below meth c H1 locs1 cells slots Q (F0 m (pc + 1) ls rest)) : W p l e R s m args below meth c H locs cells slots Q (F0 m pc ls (.int x :: .int (nI j) :: .ref (ad (2 * i + 9)) :: rest)) := by
  refine va_iast hexec hb hK hP hD hS (2 * i + 9) 0 (NC_w hi) rfl (vp_in_nI hj (by decide)) hdg (fun H1 locs1 h1 h2 h3 => ?_)
  rw [nI_clamp (by omega)] at h1 h2
  exact kk H1 locs1 (NC_pW hi ▸ h1) (NC_pW hi ▸ h2) h3
theorem nw_sR (hexec : p.tables.exec = Jvm.exec) (hb : c.code = cc) (hK : va_K D clA (tyA cI cB cR) s) (hP : va_P D clA (NC cI cB cR ad w) H) (hD : va_D A (NC cI cB cR ad w)) (hS : va_S A H0 H locs) {j : Nat} {x : Int32} (hj : j < 28672) (hdg : decode cc pc = .ok (.iastore, 1))
    (kk : ∀ (H1 : Heap) (locs1 : List Loc), va_P D clA (NC cI cB cR ad (pR w (upd (sR w) j x))) H1 → va_D A (NC cI cB cR ad (pR w (upd (sR w) j x))) → va_S A H0 H1 locs1 → W p l e R s m args below meth c H1 locs1 cells slots Q (F0 m (pc + 1) ls rest)) : W p l e R s m args below meth c H locs cells slots Q (F0 m pc ls (.int x :: .int (nI j) :: .ref (ad 3) :: rest)) := by
  refine va_iast hexec hb hK hP hD hS 3 0 (NC_at (by decide)) rfl (vp_in_nI hj (by decide)) hdg (fun H1 locs1 h1 h2 h3 => ?_)
  rw [nI_clamp (by omega)] at h1 h2
  exact kk H1 locs1 (NC_pR _ ▸ h1) (NC_pR _ ▸ h2) h3
theorem nw_sP (hexec : p.tables.exec = Jvm.exec) (hb : c.code = cc) (hK : va_K D clA (tyA cI cB cR) s) (hP : va_P D clA (NC cI cB cR ad w) H) (hD : va_D A (NC cI cB cR ad w)) (hS : va_S A H0 H locs) {j : Nat} {x : Int32} (hj : j < 4800) (hdg : decode cc pc = .ok (.iastore, 1))
    (kk : ∀ (H1 : Heap) (locs1 : List Loc), va_P D clA (NC cI cB cR ad (pP w (upd (sP w) j x))) H1 → va_D A (NC cI cB cR ad (pP w (upd (sP w) j x))) → va_S A H0 H1 locs1 → W p l e R s m args below meth c H1 locs1 cells slots Q (F0 m (pc + 1) ls rest)) : W p l e R s m args below meth c H locs cells slots Q (F0 m pc ls (.int x :: .int (nI j) :: .ref (ad 5) :: rest)) := by
  refine va_iast hexec hb hK hP hD hS 5 0 (NC_at (by decide)) rfl (vp_in_nI hj (by decide)) hdg (fun H1 locs1 h1 h2 h3 => ?_)
  rw [nI_clamp (by omega)] at h1 h2
  exact kk H1 locs1 (NC_pP _ ▸ h1) (NC_pP _ ▸ h2) h3
theorem nw_sT (hexec : p.tables.exec = Jvm.exec) (hb : c.code = cc) (hK : va_K D clA (tyA cI cB cR) s) (hP : va_P D clA (NC cI cB cR ad w) H) (hD : va_D A (NC cI cB cR ad w)) (hS : va_S A H0 H locs) {j : Nat} {x : Int32} (hj : j < 4096) (hdg : decode cc pc = .ok (.bastore, 1))
    (kk : ∀ (H1 : Heap) (locs1 : List Loc), va_P D clA (NC cI cB cR ad (pT w (upd (sT w) j (vp_nar .byte x)))) H1 → va_D A (NC cI cB cR ad (pT w (upd (sT w) j (vp_nar .byte x)))) → va_S A H0 H1 locs1 → W p l e R s m args below meth c H1 locs1 cells slots Q (F0 m (pc + 1) ls rest)) : W p l e R s m args below meth c H locs cells slots Q (F0 m pc ls (.int x :: .int (nI j) :: .ref (ad 6) :: rest)) := by
  refine va_bast hexec hb hK hP hD hS 6 1 (NC_at (by decide)) rfl (vp_in_nI hj (by decide)) hdg (fun H1 locs1 h1 h2 h3 => ?_)
  rw [nI_clamp (by omega)] at h1 h2
  exact kk H1 locs1 (NC_pT _ ▸ h1) (NC_pT _ ▸ h2) h3
theorem nw_sO (hexec : p.tables.exec = Jvm.exec) (hb : c.code = cc) (hK : va_K D clA (tyA cI cB cR) s) (hP : va_P D clA (NC cI cB cR ad w) H) (hD : va_D A (NC cI cB cR ad w)) (hS : va_S A H0 H locs) {j : Nat} {x : Int32} (hj : j < 20000) (hdg : decode cc pc = .ok (.bastore, 1))
    (kk : ∀ (H1 : Heap) (locs1 : List Loc), va_P D clA (NC cI cB cR ad (pO w (upd (sO w) j (vp_nar .byte x)))) H1 → va_D A (NC cI cB cR ad (pO w (upd (sO w) j (vp_nar .byte x)))) → va_S A H0 H1 locs1 → W p l e R s m args below meth c H1 locs1 cells slots Q (F0 m (pc + 1) ls rest)) : W p l e R s m args below meth c H locs cells slots Q (F0 m pc ls (.int x :: .int (nI j) :: .ref (ad 7) :: rest)) := by
  refine va_bast hexec hb hK hP hD hS 7 1 (NC_at (by decide)) rfl (vp_in_nI hj (by decide)) hdg (fun H1 locs1 h1 h2 h3 => ?_)
  rw [nI_clamp (by omega)] at h1 h2
  exact kk H1 locs1 (NC_pO _ ▸ h1) (NC_pO _ ▸ h2) h3
end WR
end
section
/-! CALLS IN THE WORLD: what a method of the class starts from and leaves; the call of one -/
/-- words that no callee takes over by itself: links of nest mates, what an exception can be cast to, what its superclasses declare -/
def wB : List Cond := [.methodLinkNest "LimbWorks$Natural" 19 y_Lw_bitsOf "LimbWorks", .methodLinkNest "LimbWorks$Bench" 46 y_Lw_bitsOf "LimbWorks", .methodLinkNest "LimbWorks$Roots" 65 y_Lw_bitsOf "LimbWorks",
  .castable "java/lang/IllegalArgumentException" "java/lang/IllegalArgumentException", .castable "java/lang/IllegalStateException" "java/lang/IllegalStateException", .castable "java/lang/ArithmeticException" "java/lang/ArithmeticException", .castable "java/lang/UnsupportedOperationException" "java/lang/UnsupportedOperationException", .castable "java/util/NoSuchElementException" "java/util/NoSuchElementException",
  .declares ⟨"java/lang/RuntimeException", "<init>", "()V"⟩, .declares ⟨"java/lang/Exception", "<init>", "()V"⟩, .declares ⟨"java/lang/Throwable", "<init>", "()V"⟩]
def KB (U : State) : Prop := ∀ w ∈ wB, va_Nw w U
theorem KB.warm {s U : State} (hW : s.WarmedH U.vm) (h : KB s) : KB U := by
  have h' : ∀ w ∈ wB, va_Nw w s := h
  intro w hw
  have h1 := h' w hw
  simp only [wB, List.mem_cons, List.not_mem_nil, or_false] at hw
  rcases hw with e | e | e | e | e | e | e | e | e | e | e <;> subst e
  · exact va_Nw.warmM hW h1
  · exact va_Nw.warmM hW h1
  · exact va_Nw.warmM hW h1
  · exact va_Nw.warmC hW h1
  · exact va_Nw.warmC hW h1
  · exact va_Nw.warmC hW h1
  · exact va_Nw.warmC hW h1
  · exact va_Nw.warmC hW h1
  · exact va_Nw.warmD hW h1
  · exact va_Nw.warmD hW h1
  · exact va_Nw.warmD hW h1
theorem KB.same {s U : State} (hv : s.vm = U.vm) (h : KB s) : KB U := by
  have h' : ∀ w ∈ wB, va_Nw w s := h
  intro w hw
  have h1 := h' w hw
  simp only [wB, List.mem_cons, List.not_mem_nil, or_false] at hw
  rcases hw with e | e | e | e | e | e | e | e | e | e | e <;> subst e <;> exact va_Nw.same rfl hv h1
/-- the cells that the class's methods may change: the world's, and new ones -/
def AA (ad : Nat → Nat) (sz : Nat) (q : Nat) : Prop := (∃ k, k < 36 ∧ q = ad k) ∨ sz ≤ q
theorem AA.mono {ad : Nat → Nat} {a b : Nat} (h : a ≤ b) {q : Nat} (hq : AA ad b q) : AA ad a q := by
  rcases hq with q | q
  · exact Or.inl q
  · exact Or.inr (Nat.le_trans h q)
/-- Throwable's two statics -/
def TB (ad : Nat → Nat) (U : State) : Prop := vx_Zq Bundle.tN "UNASSIGNED_STACK" Bundle.steD (AA ad U.heap.size) U U.heap ∧ vx_Zq Bundle.tN "SUPPRESSED_SENTINEL" Bundle.listD (AA ad U.heap.size) U U.heap
def KW (D : va_G) (cI cB cR : ClassId) (ad : Nat → Nat) (U : State) : Prop := va_K D clA (tyA cI cB cR) U ∧ KB U ∧ TB ad U
/-- where a method of the class starts from: the world w -/
def PW (D : va_G) (cI cB cR : ClassId) (ad : Nat → Nat) (w : St) (sz : Nat) (U : State) : Prop := U.heap.size = sz ∧ va_P D clA (NC cI cB cR ad w) U.heap ∧ va_D (fun _ => True) (NC cI cB cR ad w) ∧ KW D cI cB cR ad U
def BW (D : va_G) (cI cB cR : ClassId) (ad : Nat → Nat) (w : St) (t : State) : Prop := va_P D clA (NC cI cB cR ad w) t.heap
section PWs
variable {D : va_G} {cI cB cR : ClassId} {ad : Nat → Nat} {w w' : St} {A B : Nat → Prop}
theorem NC_D (h : va_D A (NC cI cB cR ad w)) : va_D A (NC cI cB cR ad w') := by
  have key : ∀ (i : Nat) (q : Nat × va_E), (NC cI cB cR ad w')[i]? = some q → ∃ q', (NC cI cB cR ad w)[i]? = some q' ∧ q'.1 = q.1 := by
    intro i q hq
    have hl : i < 36 := by
      have := (List.getElem?_eq_some_iff.mp hq).1
      rw [NC_len] at this
      exact this
    rw [NC_at hl] at hq
    exact ⟨_, NC_at hl, by rw [← Option.some.inj hq]⟩
  refine ⟨fun i j x y hx hy hxy => ?_, fun k q hq => ?_⟩
  · obtain ⟨x', h1, h2⟩ := key i x hx
    obtain ⟨y', h3, h4⟩ := key j y hy
    exact h.1 i j x' y' h1 h3 (by rw [h2, h4, hxy])
  · obtain ⟨q', h1, h2⟩ := key k q hq
    rw [← h2]
    exact h.2 k q' h1
theorem NC_AA {sz : Nat} (h : va_D A (NC cI cB cR ad w)) : va_D (AA ad sz) (NC cI cB cR ad w) := by
  refine ⟨h.1, fun k q hq => ?_⟩
  have hl : k < 36 := by
    have := (List.getElem?_eq_some_iff.mp hq).1
    rw [NC_len] at this
    exact this
  rw [NC_at hl] at hq
  exact Or.inl ⟨k, hl, by rw [← Option.some.inj hq]⟩
theorem PW_blind {av : List Value} {sz : Nat} : FrameBlind (va_Pc av (PW D cI cB cR ad w sz)) := by
  intro a U g mk q
  obtain ⟨q0, q1, q2, q3, q4, q5, q6⟩ := q
  exact ⟨q0, q1, q2, q3, va_K.moved (u := U) (U := U.calling g mk a) (Vm.Alike.refl U.vm) q4, KB.same (s := U) (U := U.calling g mk a) rfl q5, vx_Zq.moved (Vm.Alike.refl U.vm) q6.1, vx_Zq.moved (Vm.Alike.refl U.vm) q6.2⟩
theorem PW_pre {s : State} {H : Heap} {locs : List Loc} (hKW : KW D cI cB cR ad s) (hP : va_P D clA (NC cI cB cR ad w) H) (hD : va_D (AA ad s.heap.size) (NC cI cB cR ad w)) (hS : va_S (AA ad s.heap.size) s.heap H locs) :
    ∀ U : State, U.heap = H → s.WarmedH U.vm → PW D cI cB cR ad w H.size U := by
  intro U hU hW
  have hm : ∀ q, AA ad U.heap.size q → AA ad s.heap.size q := fun q h => AA.mono (by rw [hU]; exact hS.1) h
  refine ⟨by rw [hU], by rw [hU]; exact hP, ⟨hD.1, fun _ _ _ => trivial⟩, va_K.moved hW.alike hKW.1, KB.warm hW hKW.2.1, ?_, ?_⟩
  · have := ((hKW.2.2.1.kept hS.2.1).narrow hm)
    rw [hU]
    rw [hU] at this
    exact vx_Zq.moved hW.alike this
  · have := ((hKW.2.2.2.kept hS.2.1).narrow hm)
    rw [hU]
    rw [hU] at this
    exact vx_Zq.moved hW.alike this
end PWs
section PWc
variable {p : Program} {l : Launch} {e : Env} {R : Room} {s : State} {m : MethodId} {args : Array Value} {below : List Frame} {meth : Method} {c : Code} {H : Heap} {locs : List Loc} {cells slots : Nat} {Q : State → Prop}
variable {cc bytes : ByteArray} {pc nL maxL index n : Nat} {ls : Array Slot} {rest As st0 : List Value} {D : va_G} {cI cB cR : ClassId} {ad : Nat → Nat} {w : St} {own C host : String} {c0 c2 : Cond} {y : MethodName} {ret : Option FieldType} {rm : Room} {b : Addr}
theorem recvN (hK : va_K D clA (tyA cI cB cR) s) (hP : va_P D clA (NC cI cB cR ad w) H) {i : Nat} (hi : i < 14) : ∃ cellB : Cell, H[ad (2 * i + 8)]? = some cellB ∧ cellB.vm.isStatics = false ∧ s.vm.findClass R_Na = some cellB.cls := va_recv hK hP (ci := 1) (q0 := 2 * i + 8) (q := (R_Na, F_Na, 2)) rfl (NC_o hi)
theorem recvB (hK : va_K D clA (tyA cI cB cR) s) (hP : va_P D clA (NC cI cB cR ad w) H) : ∃ cellB : Cell, H[ad 2]? = some cellB ∧ cellB.vm.isStatics = false ∧ s.vm.findClass R_Be = some cellB.cls := va_recv hK hP (ci := 2) (q0 := 2) (q := (R_Be, F_Be, 1)) rfl (NC_at (by decide))
theorem recvO (hK : va_K D clA (tyA cI cB cR) s) (hP : va_P D clA (NC cI cB cR ad w) H) : ∃ cellB : Cell, H[ad 4]? = some cellB ∧ cellB.vm.isStatics = false ∧ s.vm.findClass R_Ro = some cellB.cls := va_recv hK hP (ci := 3) (q0 := 4) (q := (R_Ro, F_Ro, 3)) rfl (NC_at (by decide))
theorem recvL (hK : va_K D clA (tyA cI cB cR) s) (hP : va_P D clA (NC cI cB cR ad w) H) : ∃ cellB : Cell, H[ad 0]? = some cellB ∧ cellB.vm.isStatics = false ∧ s.vm.findClass R_Lw = some cellB.cls := va_recv hK hP (ci := 0) (q0 := 0) (q := (R_Lw, F_Lw, 9)) rfl (NC_at (by decide))
theorem AAm {q : Nat} (hS : va_S (AA ad s.heap.size) s.heap H locs) (h : AA ad H.size q) : AA ad s.heap.size q := AA.mono hS.1 h
theorem wV_v {post : St → Prop} (S : CallFix p m c cc nL s args (c0 :: wA) own) (hM : Met l y (c2 :: wA) rm (va_Pc (.ref b :: As) (PW D cI cB cR ad w H.size)) (va_Qv post (BW D cI cB cR ad) (AA ad H.size)) 0 0 (AA ad H.size)) (cw : CallW R s args own C index y bytes maxL ret (c2 :: wA) rm 0 0 n) (hrecv : ∃ cellB : Cell, H[b]? = some cellB ∧ cellB.vm.isStatics = false ∧ s.vm.findClass C = some cellB.cls) (hKW : KW D cI cB cR ad s) (hP : va_P D clA (NC cI cB cR ad w) H) (hD : va_D (AA ad s.heap.size) (NC cI cB cR ad w)) (hS : va_S (AA ad s.heap.size) s.heap H locs) (hn : As.length = n) (hsize : ls.size = nL) (hstack : st0 = As.reverse ++ .ref b :: rest) (hW : (rest.map fun v => v.category).sum ≤ 8) (hdg : decode cc pc = .ok (.invokevirtual index, 3)) (hf : cells ≤ R.cells ∧ slots ≤ R.slots)
    (kk : ∀ (w1 : St) (H1 : Heap) (locs1 : List Loc), post w1 → va_P D clA (NC cI cB cR ad w1) H1 → va_D (AA ad s.heap.size) (NC cI cB cR ad w1) → va_S (AA ad s.heap.size) s.heap H1 locs1 → W p l e R s m args below meth c H1 locs1 cells slots Q (F0 m (pc + 3) ls (rest))) : W p l e R s m args below meth c H locs cells slots Q (F0 m pc ls st0) :=
  va_callv (va_runV (g := F0 m pc ls st0) S hM cw ⟨PW_blind, hrecv, fun U h1 h2 => ⟨rfl, PW_pre hKW hP hD hS U h1 h2⟩⟩ rfl hn hsize hstack (by show 2 * 0 + _ ≤ _; omega) hdg hf) hS (fun q _ h => AAm hS h) (fun q h => AAm hS h)
    (fun u t H1 locs1 e1 _ hp hb _ _ hS1 => kk u H1 locs1 hp (by rw [← e1]; exact hb) (NC_D hD) hS1)
theorem wV_i {post : Int32 → St → Prop} (S : CallFix p m c cc nL s args (c0 :: wA) own) (hM : Met l y (c2 :: wA) rm (va_Pc (.ref b :: As) (PW D cI cB cR ad w H.size)) (va_Qi post (BW D cI cB cR ad) (AA ad H.size)) 0 0 (AA ad H.size)) (cw : CallW R s args own C index y bytes maxL ret (c2 :: wA) rm 0 0 n) (hrecv : ∃ cellB : Cell, H[b]? = some cellB ∧ cellB.vm.isStatics = false ∧ s.vm.findClass C = some cellB.cls) (hKW : KW D cI cB cR ad s) (hP : va_P D clA (NC cI cB cR ad w) H) (hD : va_D (AA ad s.heap.size) (NC cI cB cR ad w)) (hS : va_S (AA ad s.heap.size) s.heap H locs) (hn : As.length = n) (hsize : ls.size = nL) (hstack : st0 = As.reverse ++ .ref b :: rest) (hW : (rest.map fun v => v.category).sum ≤ 8) (hdg : decode cc pc = .ok (.invokevirtual index, 3)) (hf : cells ≤ R.cells ∧ slots ≤ R.slots)
    (kk : ∀ (r : Int32) (w1 : St) (H1 : Heap) (locs1 : List Loc), post r w1 → va_P D clA (NC cI cB cR ad w1) H1 → va_D (AA ad s.heap.size) (NC cI cB cR ad w1) → va_S (AA ad s.heap.size) s.heap H1 locs1 → W p l e R s m args below meth c H1 locs1 cells slots Q (F0 m (pc + 3) ls (.int r :: rest))) : W p l e R s m args below meth c H locs cells slots Q (F0 m pc ls st0) :=
  va_calli (va_runV (g := F0 m pc ls st0) S hM cw ⟨PW_blind, hrecv, fun U h1 h2 => ⟨rfl, PW_pre hKW hP hD hS U h1 h2⟩⟩ rfl hn hsize hstack (by show 2 * 0 + _ ≤ _; omega) hdg hf) hS (fun q _ h => AAm hS h) (fun q h => AAm hS h)
    (fun r u t H1 locs1 e1 _ hp hb _ _ hS1 => kk r u H1 locs1 hp (by rw [← e1]; exact hb) (NC_D hD) hS1)
theorem wV_l {post : Int64 → St → Prop} (S : CallFix p m c cc nL s args (c0 :: wA) own) (hM : Met l y (c2 :: wA) rm (va_Pc (.ref b :: As) (PW D cI cB cR ad w H.size)) (va_Ql post (BW D cI cB cR ad) (AA ad H.size)) 0 0 (AA ad H.size)) (cw : CallW R s args own C index y bytes maxL ret (c2 :: wA) rm 0 0 n) (hrecv : ∃ cellB : Cell, H[b]? = some cellB ∧ cellB.vm.isStatics = false ∧ s.vm.findClass C = some cellB.cls) (hKW : KW D cI cB cR ad s) (hP : va_P D clA (NC cI cB cR ad w) H) (hD : va_D (AA ad s.heap.size) (NC cI cB cR ad w)) (hS : va_S (AA ad s.heap.size) s.heap H locs) (hn : As.length = n) (hsize : ls.size = nL) (hstack : st0 = As.reverse ++ .ref b :: rest) (hW : (rest.map fun v => v.category).sum ≤ 8) (hdg : decode cc pc = .ok (.invokevirtual index, 3)) (hf : cells ≤ R.cells ∧ slots ≤ R.slots)
    (kk : ∀ (r : Int64) (w1 : St) (H1 : Heap) (locs1 : List Loc), post r w1 → va_P D clA (NC cI cB cR ad w1) H1 → va_D (AA ad s.heap.size) (NC cI cB cR ad w1) → va_S (AA ad s.heap.size) s.heap H1 locs1 → W p l e R s m args below meth c H1 locs1 cells slots Q (F0 m (pc + 3) ls (.long r :: rest))) : W p l e R s m args below meth c H locs cells slots Q (F0 m pc ls st0) :=
  va_calll (va_runV (g := F0 m pc ls st0) S hM cw ⟨PW_blind, hrecv, fun U h1 h2 => ⟨rfl, PW_pre hKW hP hD hS U h1 h2⟩⟩ rfl hn hsize hstack (by show 2 * 0 + _ ≤ _; omega) hdg hf) hS (fun q _ h => AAm hS h) (fun q h => AAm hS h)
    (fun r u t H1 locs1 e1 _ hp hb _ _ hS1 => kk r u H1 locs1 hp (by rw [← e1]; exact hb) (NC_D hD) hS1)
theorem wS_v {post : St → Prop} (S : CallFix p m c cc nL s args (c0 :: wA) own) (hM : Met l y (c2 :: wA) rm (va_Pc As (PW D cI cB cR ad w H.size)) (va_Qv post (BW D cI cB cR ad) (AA ad H.size)) 0 0 (AA ad H.size)) (cw : CallB R s args own index y bytes maxL ret (c2 :: wA) rm 0 0 n ∧ (Cond.static y).before args s = true) (hKW : KW D cI cB cR ad s) (hP : va_P D clA (NC cI cB cR ad w) H) (hD : va_D (AA ad s.heap.size) (NC cI cB cR ad w)) (hS : va_S (AA ad s.heap.size) s.heap H locs) (hn : As.length = n) (hsize : ls.size = nL) (hstack : st0 = As.reverse ++ rest) (hW : (rest.map fun v => v.category).sum ≤ 8) (hdg : decode cc pc = .ok (.invokestatic index, 3)) (hf : cells ≤ R.cells ∧ slots ≤ R.slots)
    (kk : ∀ (w1 : St) (H1 : Heap) (locs1 : List Loc), post w1 → va_P D clA (NC cI cB cR ad w1) H1 → va_D (AA ad s.heap.size) (NC cI cB cR ad w1) → va_S (AA ad s.heap.size) s.heap H1 locs1 → W p l e R s m args below meth c H1 locs1 cells slots Q (F0 m (pc + 3) ls (rest))) : W p l e R s m args below meth c H locs cells slots Q (F0 m pc ls st0) :=
  va_callv (va_runS (g := F0 m pc ls st0) S hM cw ⟨PW_blind, fun U h1 h2 => ⟨rfl, PW_pre hKW hP hD hS U h1 h2⟩⟩ rfl hn hsize hstack (by show 2 * 0 + _ ≤ _; omega) hdg hf) hS (fun q _ h => AAm hS h) (fun q h => AAm hS h)
    (fun u t H1 locs1 e1 _ hp hb _ _ hS1 => kk u H1 locs1 hp (by rw [← e1]; exact hb) (NC_D hD) hS1)
theorem wS_i {post : Int32 → St → Prop} (S : CallFix p m c cc nL s args (c0 :: wA) own) (hM : Met l y (c2 :: wA) rm (va_Pc As (PW D cI cB cR ad w H.size)) (va_Qi post (BW D cI cB cR ad) (AA ad H.size)) 0 0 (AA ad H.size)) (cw : CallB R s args own index y bytes maxL ret (c2 :: wA) rm 0 0 n ∧ (Cond.static y).before args s = true) (hKW : KW D cI cB cR ad s) (hP : va_P D clA (NC cI cB cR ad w) H) (hD : va_D (AA ad s.heap.size) (NC cI cB cR ad w)) (hS : va_S (AA ad s.heap.size) s.heap H locs) (hn : As.length = n) (hsize : ls.size = nL) (hstack : st0 = As.reverse ++ rest) (hW : (rest.map fun v => v.category).sum ≤ 8) (hdg : decode cc pc = .ok (.invokestatic index, 3)) (hf : cells ≤ R.cells ∧ slots ≤ R.slots)
    (kk : ∀ (r : Int32) (w1 : St) (H1 : Heap) (locs1 : List Loc), post r w1 → va_P D clA (NC cI cB cR ad w1) H1 → va_D (AA ad s.heap.size) (NC cI cB cR ad w1) → va_S (AA ad s.heap.size) s.heap H1 locs1 → W p l e R s m args below meth c H1 locs1 cells slots Q (F0 m (pc + 3) ls (.int r :: rest))) : W p l e R s m args below meth c H locs cells slots Q (F0 m pc ls st0) :=
  va_calli (va_runS (g := F0 m pc ls st0) S hM cw ⟨PW_blind, fun U h1 h2 => ⟨rfl, PW_pre hKW hP hD hS U h1 h2⟩⟩ rfl hn hsize hstack (by show 2 * 0 + _ ≤ _; omega) hdg hf) hS (fun q _ h => AAm hS h) (fun q h => AAm hS h)
    (fun r u t H1 locs1 e1 _ hp hb _ _ hS1 => kk r u H1 locs1 hp (by rw [← e1]; exact hb) (NC_D hD) hS1)
theorem wS_l {post : Int64 → St → Prop} (S : CallFix p m c cc nL s args (c0 :: wA) own) (hM : Met l y (c2 :: wA) rm (va_Pc As (PW D cI cB cR ad w H.size)) (va_Ql post (BW D cI cB cR ad) (AA ad H.size)) 0 0 (AA ad H.size)) (cw : CallB R s args own index y bytes maxL ret (c2 :: wA) rm 0 0 n ∧ (Cond.static y).before args s = true) (hKW : KW D cI cB cR ad s) (hP : va_P D clA (NC cI cB cR ad w) H) (hD : va_D (AA ad s.heap.size) (NC cI cB cR ad w)) (hS : va_S (AA ad s.heap.size) s.heap H locs) (hn : As.length = n) (hsize : ls.size = nL) (hstack : st0 = As.reverse ++ rest) (hW : (rest.map fun v => v.category).sum ≤ 8) (hdg : decode cc pc = .ok (.invokestatic index, 3)) (hf : cells ≤ R.cells ∧ slots ≤ R.slots)
    (kk : ∀ (r : Int64) (w1 : St) (H1 : Heap) (locs1 : List Loc), post r w1 → va_P D clA (NC cI cB cR ad w1) H1 → va_D (AA ad s.heap.size) (NC cI cB cR ad w1) → va_S (AA ad s.heap.size) s.heap H1 locs1 → W p l e R s m args below meth c H1 locs1 cells slots Q (F0 m (pc + 3) ls (.long r :: rest))) : W p l e R s m args below meth c H locs cells slots Q (F0 m pc ls st0) :=
  va_calll (va_runS (g := F0 m pc ls st0) S hM cw ⟨PW_blind, fun U h1 h2 => ⟨rfl, PW_pre hKW hP hD hS U h1 h2⟩⟩ rfl hn hsize hstack (by show 2 * 0 + _ ≤ _; omega) hdg hf) hS (fun q _ h => AAm hS h) (fun q h => AAm hS h)
    (fun r u t H1 locs1 e1 _ hp hb _ _ hS1 => kk r u H1 locs1 hp (by rw [← e1]; exact hb) (NC_D hD) hS1)
theorem wVN_v {post : St → Prop} (S : CallFix p m c cc nL s args (c0 :: wA) own) (hM : Met l y (c2 :: wA) rm (va_Pc (.ref b :: As) (PW D cI cB cR ad w H.size)) (va_Qv post (BW D cI cB cR ad) (AA ad H.size)) 0 0 (AA ad H.size)) (cw : va_CN R s args own index y host bytes maxL ret (c2 :: wA) rm 0 0 n ∧ (Cond.instanceMethod y).before args s = true ∧ (Cond.selects C y y).before args s = true) (hrecv : ∃ cellB : Cell, H[b]? = some cellB ∧ cellB.vm.isStatics = false ∧ s.vm.findClass C = some cellB.cls) (hKW : KW D cI cB cR ad s) (hP : va_P D clA (NC cI cB cR ad w) H) (hD : va_D (AA ad s.heap.size) (NC cI cB cR ad w)) (hS : va_S (AA ad s.heap.size) s.heap H locs) (hn : As.length = n) (hsize : ls.size = nL) (hstack : st0 = As.reverse ++ .ref b :: rest) (hW : (rest.map fun v => v.category).sum ≤ 8) (hdg : decode cc pc = .ok (.invokevirtual index, 3)) (hf : cells ≤ R.cells ∧ slots ≤ R.slots)
    (kk : ∀ (w1 : St) (H1 : Heap) (locs1 : List Loc), post w1 → va_P D clA (NC cI cB cR ad w1) H1 → va_D (AA ad s.heap.size) (NC cI cB cR ad w1) → va_S (AA ad s.heap.size) s.heap H1 locs1 → W p l e R s m args below meth c H1 locs1 cells slots Q (F0 m (pc + 3) ls (rest))) : W p l e R s m args below meth c H locs cells slots Q (F0 m pc ls st0) :=
  va_callv (va_runVN (g := F0 m pc ls st0) S hM cw ⟨PW_blind, hrecv, fun U h1 h2 => ⟨rfl, PW_pre hKW hP hD hS U h1 h2⟩⟩ rfl hn hsize hstack (by show 2 * 0 + _ ≤ _; omega) hdg hf) hS (fun q _ h => AAm hS h) (fun q h => AAm hS h)
    (fun u t H1 locs1 e1 _ hp hb _ _ hS1 => kk u H1 locs1 hp (by rw [← e1]; exact hb) (NC_D hD) hS1)
theorem wVN_i {post : Int32 → St → Prop} (S : CallFix p m c cc nL s args (c0 :: wA) own) (hM : Met l y (c2 :: wA) rm (va_Pc (.ref b :: As) (PW D cI cB cR ad w H.size)) (va_Qi post (BW D cI cB cR ad) (AA ad H.size)) 0 0 (AA ad H.size)) (cw : va_CN R s args own index y host bytes maxL ret (c2 :: wA) rm 0 0 n ∧ (Cond.instanceMethod y).before args s = true ∧ (Cond.selects C y y).before args s = true) (hrecv : ∃ cellB : Cell, H[b]? = some cellB ∧ cellB.vm.isStatics = false ∧ s.vm.findClass C = some cellB.cls) (hKW : KW D cI cB cR ad s) (hP : va_P D clA (NC cI cB cR ad w) H) (hD : va_D (AA ad s.heap.size) (NC cI cB cR ad w)) (hS : va_S (AA ad s.heap.size) s.heap H locs) (hn : As.length = n) (hsize : ls.size = nL) (hstack : st0 = As.reverse ++ .ref b :: rest) (hW : (rest.map fun v => v.category).sum ≤ 8) (hdg : decode cc pc = .ok (.invokevirtual index, 3)) (hf : cells ≤ R.cells ∧ slots ≤ R.slots)
    (kk : ∀ (r : Int32) (w1 : St) (H1 : Heap) (locs1 : List Loc), post r w1 → va_P D clA (NC cI cB cR ad w1) H1 → va_D (AA ad s.heap.size) (NC cI cB cR ad w1) → va_S (AA ad s.heap.size) s.heap H1 locs1 → W p l e R s m args below meth c H1 locs1 cells slots Q (F0 m (pc + 3) ls (.int r :: rest))) : W p l e R s m args below meth c H locs cells slots Q (F0 m pc ls st0) :=
  va_calli (va_runVN (g := F0 m pc ls st0) S hM cw ⟨PW_blind, hrecv, fun U h1 h2 => ⟨rfl, PW_pre hKW hP hD hS U h1 h2⟩⟩ rfl hn hsize hstack (by show 2 * 0 + _ ≤ _; omega) hdg hf) hS (fun q _ h => AAm hS h) (fun q h => AAm hS h)
    (fun r u t H1 locs1 e1 _ hp hb _ _ hS1 => kk r u H1 locs1 hp (by rw [← e1]; exact hb) (NC_D hD) hS1)
theorem wVN_l {post : Int64 → St → Prop} (S : CallFix p m c cc nL s args (c0 :: wA) own) (hM : Met l y (c2 :: wA) rm (va_Pc (.ref b :: As) (PW D cI cB cR ad w H.size)) (va_Ql post (BW D cI cB cR ad) (AA ad H.size)) 0 0 (AA ad H.size)) (cw : va_CN R s args own index y host bytes maxL ret (c2 :: wA) rm 0 0 n ∧ (Cond.instanceMethod y).before args s = true ∧ (Cond.selects C y y).before args s = true) (hrecv : ∃ cellB : Cell, H[b]? = some cellB ∧ cellB.vm.isStatics = false ∧ s.vm.findClass C = some cellB.cls) (hKW : KW D cI cB cR ad s) (hP : va_P D clA (NC cI cB cR ad w) H) (hD : va_D (AA ad s.heap.size) (NC cI cB cR ad w)) (hS : va_S (AA ad s.heap.size) s.heap H locs) (hn : As.length = n) (hsize : ls.size = nL) (hstack : st0 = As.reverse ++ .ref b :: rest) (hW : (rest.map fun v => v.category).sum ≤ 8) (hdg : decode cc pc = .ok (.invokevirtual index, 3)) (hf : cells ≤ R.cells ∧ slots ≤ R.slots)
    (kk : ∀ (r : Int64) (w1 : St) (H1 : Heap) (locs1 : List Loc), post r w1 → va_P D clA (NC cI cB cR ad w1) H1 → va_D (AA ad s.heap.size) (NC cI cB cR ad w1) → va_S (AA ad s.heap.size) s.heap H1 locs1 → W p l e R s m args below meth c H1 locs1 cells slots Q (F0 m (pc + 3) ls (.long r :: rest))) : W p l e R s m args below meth c H locs cells slots Q (F0 m pc ls st0) :=
  va_calll (va_runVN (g := F0 m pc ls st0) S hM cw ⟨PW_blind, hrecv, fun U h1 h2 => ⟨rfl, PW_pre hKW hP hD hS U h1 h2⟩⟩ rfl hn hsize hstack (by show 2 * 0 + _ ≤ _; omega) hdg hf) hS (fun q _ h => AAm hS h) (fun q h => AAm hS h)
    (fun r u t H1 locs1 e1 _ hp hb _ _ hS1 => kk r u H1 locs1 hp (by rw [← e1]; exact hb) (NC_D hD) hS1)
theorem wSN_v {post : St → Prop} (S : CallFix p m c cc nL s args (c0 :: wA) own) (hM : Met l y (c2 :: wA) rm (va_Pc As (PW D cI cB cR ad w H.size)) (va_Qv post (BW D cI cB cR ad) (AA ad H.size)) 0 0 (AA ad H.size)) (cw : va_CN R s args own index y host bytes maxL ret (c2 :: wA) rm 0 0 n ∧ (Cond.static y).before args s = true ∧ True) (hKW : KW D cI cB cR ad s) (hP : va_P D clA (NC cI cB cR ad w) H) (hD : va_D (AA ad s.heap.size) (NC cI cB cR ad w)) (hS : va_S (AA ad s.heap.size) s.heap H locs) (hn : As.length = n) (hsize : ls.size = nL) (hstack : st0 = As.reverse ++ rest) (hW : (rest.map fun v => v.category).sum ≤ 8) (hdg : decode cc pc = .ok (.invokestatic index, 3)) (hf : cells ≤ R.cells ∧ slots ≤ R.slots)
    (kk : ∀ (w1 : St) (H1 : Heap) (locs1 : List Loc), post w1 → va_P D clA (NC cI cB cR ad w1) H1 → va_D (AA ad s.heap.size) (NC cI cB cR ad w1) → va_S (AA ad s.heap.size) s.heap H1 locs1 → W p l e R s m args below meth c H1 locs1 cells slots Q (F0 m (pc + 3) ls (rest))) : W p l e R s m args below meth c H locs cells slots Q (F0 m pc ls st0) :=
  va_callv (va_runSN (g := F0 m pc ls st0) S hM cw ⟨PW_blind, fun U h1 h2 => ⟨rfl, PW_pre hKW hP hD hS U h1 h2⟩⟩ rfl hn hsize hstack (by show 2 * 0 + _ ≤ _; omega) hdg hf) hS (fun q _ h => AAm hS h) (fun q h => AAm hS h)
    (fun u t H1 locs1 e1 _ hp hb _ _ hS1 => kk u H1 locs1 hp (by rw [← e1]; exact hb) (NC_D hD) hS1)
theorem wSN_i {post : Int32 → St → Prop} (S : CallFix p m c cc nL s args (c0 :: wA) own) (hM : Met l y (c2 :: wA) rm (va_Pc As (PW D cI cB cR ad w H.size)) (va_Qi post (BW D cI cB cR ad) (AA ad H.size)) 0 0 (AA ad H.size)) (cw : va_CN R s args own index y host bytes maxL ret (c2 :: wA) rm 0 0 n ∧ (Cond.static y).before args s = true ∧ True) (hKW : KW D cI cB cR ad s) (hP : va_P D clA (NC cI cB cR ad w) H) (hD : va_D (AA ad s.heap.size) (NC cI cB cR ad w)) (hS : va_S (AA ad s.heap.size) s.heap H locs) (hn : As.length = n) (hsize : ls.size = nL) (hstack : st0 = As.reverse ++ rest) (hW : (rest.map fun v => v.category).sum ≤ 8) (hdg : decode cc pc = .ok (.invokestatic index, 3)) (hf : cells ≤ R.cells ∧ slots ≤ R.slots)
    (kk : ∀ (r : Int32) (w1 : St) (H1 : Heap) (locs1 : List Loc), post r w1 → va_P D clA (NC cI cB cR ad w1) H1 → va_D (AA ad s.heap.size) (NC cI cB cR ad w1) → va_S (AA ad s.heap.size) s.heap H1 locs1 → W p l e R s m args below meth c H1 locs1 cells slots Q (F0 m (pc + 3) ls (.int r :: rest))) : W p l e R s m args below meth c H locs cells slots Q (F0 m pc ls st0) :=
  va_calli (va_runSN (g := F0 m pc ls st0) S hM cw ⟨PW_blind, fun U h1 h2 => ⟨rfl, PW_pre hKW hP hD hS U h1 h2⟩⟩ rfl hn hsize hstack (by show 2 * 0 + _ ≤ _; omega) hdg hf) hS (fun q _ h => AAm hS h) (fun q h => AAm hS h)
    (fun r u t H1 locs1 e1 _ hp hb _ _ hS1 => kk r u H1 locs1 hp (by rw [← e1]; exact hb) (NC_D hD) hS1)
theorem wSN_l {post : Int64 → St → Prop} (S : CallFix p m c cc nL s args (c0 :: wA) own) (hM : Met l y (c2 :: wA) rm (va_Pc As (PW D cI cB cR ad w H.size)) (va_Ql post (BW D cI cB cR ad) (AA ad H.size)) 0 0 (AA ad H.size)) (cw : va_CN R s args own index y host bytes maxL ret (c2 :: wA) rm 0 0 n ∧ (Cond.static y).before args s = true ∧ True) (hKW : KW D cI cB cR ad s) (hP : va_P D clA (NC cI cB cR ad w) H) (hD : va_D (AA ad s.heap.size) (NC cI cB cR ad w)) (hS : va_S (AA ad s.heap.size) s.heap H locs) (hn : As.length = n) (hsize : ls.size = nL) (hstack : st0 = As.reverse ++ rest) (hW : (rest.map fun v => v.category).sum ≤ 8) (hdg : decode cc pc = .ok (.invokestatic index, 3)) (hf : cells ≤ R.cells ∧ slots ≤ R.slots)
    (kk : ∀ (r : Int64) (w1 : St) (H1 : Heap) (locs1 : List Loc), post r w1 → va_P D clA (NC cI cB cR ad w1) H1 → va_D (AA ad s.heap.size) (NC cI cB cR ad w1) → va_S (AA ad s.heap.size) s.heap H1 locs1 → W p l e R s m args below meth c H1 locs1 cells slots Q (F0 m (pc + 3) ls (.long r :: rest))) : W p l e R s m args below meth c H locs cells slots Q (F0 m pc ls st0) :=
  va_calll (va_runSN (g := F0 m pc ls st0) S hM cw ⟨PW_blind, fun U h1 h2 => ⟨rfl, PW_pre hKW hP hD hS U h1 h2⟩⟩ rfl hn hsize hstack (by show 2 * 0 + _ ≤ _; omega) hdg hf) hS (fun q _ h => AAm hS h) (fun q h => AAm hS h)
    (fun r u t H1 locs1 e1 _ hp hb _ _ hS1 => kk r u H1 locs1 hp (by rw [← e1]; exact hb) (NC_D hD) hS1)
end PWc
end
section
/-! SMALL ROWS for the walks -/
theorem BW_of {D : va_G} {cI cB cR : ClassId} {ad : Nat → Nat} {w : St} {t : State} {H : Heap} (ht : t.heap = H) (hP : va_P D clA (NC cI cB cR ad w) H) : BW D cI cB cR ad w t := by
  show va_P D clA (NC cI cB cR ad w) t.heap
  rw [ht]
  exact hP
theorem iinc_dn {a : Nat} (h : 1 ≤ a) : nI a + Int32.ofInt (-1) = nI (a - 1) := by
  obtain ⟨b, rfl⟩ : ∃ b, a = b + 1 := ⟨a - 1, by omega⟩
  exact pk_m1 b
theorem lN_cu : ∀ k, k < 64 → ((nI k).toInt64.toUInt64 &&& Int64.toUInt64 63) = UInt64.ofNat k := by decide +kernel
theorem lN_shr {n k : Nat} (hn : n < 2 ^ 64) (hk : k < 64) : ((lN n).toUInt64 >>> ((nI k).toInt64.toUInt64 &&& Int64.toUInt64 63)).toInt64 = lN (n / 2 ^ k) := by
  rw [lN_cu k hk]
  apply Int64.toBitVec_inj.mp
  apply BitVec.eq_of_toNat_eq
  show ((lN n).toUInt64 >>> UInt64.ofNat k).toNat = (BitVec.ofNat 64 _).toNat
  have h1 : (UInt64.ofNat k).toNat = k := by
    show (BitVec.ofNat 64 k).toNat = k
    rw [BitVec.toNat_ofNat, Nat.mod_eq_of_lt (by omega)]
  have h2 : (lN n).toUInt64.toNat = n := by
    show (BitVec.ofNat 64 n).toNat = n
    rw [BitVec.toNat_ofNat, Nat.mod_eq_of_lt hn]
  rw [UInt64.toNat_shiftRight, h1, h2, Nat.mod_eq_of_lt hk, Nat.shiftRight_eq_div_pow, BitVec.toNat_ofNat, Nat.mod_eq_of_lt (Nat.lt_of_le_of_lt (Nat.div_le_self _ _) hn)]
theorem lN_shr32 {n : Nat} (hn : n < 2 ^ 64) : ((lN n).toUInt64 >>> ((nI 32).toInt64.toUInt64 &&& Int64.toUInt64 63)).toInt64 = lN (n / 4294967296) := lN_shr hn (by decide)
/-- every long by its number without a sign -/
def uL (x : Int64) : Nat := x.toBitVec.toNat
theorem uL_lt (x : Int64) : uL x < 2 ^ 64 := x.toBitVec.isLt
theorem lN_uL (x : Int64) : lN (uL x) = x := Int64.toBitVec_inj.mp (by show BitVec.ofNat 64 x.toBitVec.toNat = _; simp)
/-- how many of n words are left when the zeroes at the upper end are left off -/
def tl (f : Nat → Int32) : Nat → Nat
  | 0 => 0
  | n + 1 => if f n = 0 then tl f n else n + 1
theorem tl_le (f : Nat → Int32) (n : Nat) : tl f n ≤ n := by
  induction n with
  | zero => exact Nat.le_refl 0
  | succ n ih =>
    show (if f n = 0 then tl f n else n + 1) ≤ n + 1
    split
    · omega
    · exact Nat.le_refl _
theorem tl_top (f : Nat → Int32) (n : Nat) : tl f n = 0 ∨ f (tl f n - 1) ≠ 0 := by
  induction n with
  | zero => exact Or.inl rfl
  | succ n ih =>
    by_cases h : f n = 0
    · rw [show tl f (n + 1) = tl f n from if_pos h]; exact ih
    · rw [show tl f (n + 1) = n + 1 from if_neg h]; exact Or.inr h
theorem tl_val (f : Nat → Int32) (n : Nat) : vN f 0 (tl f n) = vN f 0 n := by
  induction n with
  | zero => rfl
  | succ n ih =>
    by_cases h : f n = 0
    · rw [show tl f (n + 1) = tl f n from if_pos h, ih, vN_top0 (by rw [Nat.zero_add]; exact h)]
    · rw [show tl f (n + 1) = n + 1 from if_neg h]
end
section
/-! NUMBERS: the contracts of Natural, 1 (rows laid by wip/whole/gen/c_na1.py) -/
set_option maxHeartbeats 4000000 in
set_option maxRecDepth 100000 in
/-- trim(most): the length is most, less the zeroes at the upper end -/
theorem c_Na_trim (l : Launch) {D : va_G} {cI cB cR : ClassId} {ad : Nat → Nat} (w : St) (sz : Nat) {i n : Nat} (hi : i < 14) (hn : n ≤ 6272) : Met l y_Na_trim (q_Na_trim :: wA) { frames := 0, cells := 0, slots := 0, locals := 0 } (va_Pc [.ref (ad (2 * i + 8)), .int (nI (n))] (PW D cI cB cR ad w sz)) (va_Qv (fun w1 : St => w1 = pL w i (tl (sW w i) n)) (BW D cI cB cR ad) (AA ad sz)) 0 0 (AA ad sz) := by
  refine Met.ofW (cc := b_Na_trim) (maxL := 2) (ret := none) (by decide) rfl ?_
  intro p e s m args below meth c s₁ B hml hv
  obtain ⟨rfl, hsz, hP, hD0, hKW⟩ := hv
  have hx := B.exec
  have hb := B.bytes
  have hr := B.returns
  have hts := atoms_spec (ws := q_Na_trim :: wA) B.pre
  have hown : s.vm.findClass R_Na = some m.cls := findClass_of_methodNamed B.named
  have hlocks := B.notSynchronized
  subst hsz
  have hD := NC_AA (sz := s.heap.size) hD0
  have hS : va_S (AA ad s.heap.size) s.heap s.heap [] := va_S.rf
  have hl := lv_entry ([.ref (ad (2 * i + 8)), .int (nI (n))]) (n := 2) (Nat.le_of_ble_eq_true rfl)
  rw [lg_entry_eq]
  generalize (lg_sl ([.ref (ad (2 * i + 8)), .int (nI (n))]) ++ List.replicate (2 - (lg_sl ([.ref (ad (2 * i + 8)), .int (nI (n))])).length) Slot.unset).toArray = ls at hl ⊢
  have hl : lv_has ls 2 [(0, .ref (ad (2 * i + 8))), (1, .int (nI (n)))] := hl
  refine lv_aload_n hx hb d_Na_trim_0 rfl (lv_at hl 0 rfl) ?_
  refine lv_iload_n hx hb d_Na_trim_1 rfl (lv_at hl 1 rfl) ?_
  refine nw_pL hx hb hts hown hKW.1 hP hD hS (i := i) (by omega) lf_Na_15 d_Na_trim_2 (fun H locs hP hD hS => ?_)
  obtain ⟨k, hk⟩ : ∃ k, k = n := ⟨n, rfl⟩
  have hkn : tl (sW w i) k = tl (sW w i) n := by rw [hk]
  have hk6 : k ≤ 6272 := by omega
  rw [← hk] at hP hD
  clear hk
  induction k generalizing H locs ls with
  | zero =>
    refine lv_aload_n hx hb d_Na_trim_5 rfl (lv_at hl 0 rfl) ?_
    refine nw_gL hx hb hts hown hKW.1 hP (i := i) (by omega) (n := 0) (sL_pL w i 0) lf_Na_15 d_Na_trim_6 ?_
    refine lv_if_le (tgt := 39) hx hb d_Na_trim_9 (by decide) (fun c9 => ?_) (fun c9 => ?_)
    · skip
      have c9 : 0 ≤ 0 := (nI_leI (by omega) (by omega)).mp (by rw [nI_0]; exact c9)
      exact W.vret hx hb hr (fun t ht hW => ⟨⟨pL w i 0, rfl, by rw [← hkn]; rfl, BW_of ht hP⟩, hS.F ht⟩) hS.2.2 d_Na_trim_39
    · exact absurd (by rw [nI_0]; exact Int32.le_refl 0) c9
  | succ k ih =>
    refine lv_aload_n hx hb d_Na_trim_5 rfl (lv_at hl 0 rfl) ?_
    refine nw_gL hx hb hts hown hKW.1 hP (i := i) (by omega) (n := k + 1) (sL_pL w i (k + 1)) lf_Na_15 d_Na_trim_6 ?_
    refine lv_if_le (tgt := 39) hx hb d_Na_trim_9 (by decide) (fun c9 => ?_) (fun c9 => ?_)
    · exact absurd (nI_0 ▸ c9 : nI (k + 1) ≤ nI 0) (nI_ge (by omega) (by omega))
    · skip
      refine lv_aload_n hx hb d_Na_trim_12 rfl (lv_at hl 0 rfl) ?_
      refine nw_gW hx hb hts hown hKW.1 hP (i := i) (by omega) lf_Na_9 d_Na_trim_13 ?_
      refine lv_aload_n hx hb d_Na_trim_16 rfl (lv_at hl 0 rfl) ?_
      refine nw_gL hx hb hts hown hKW.1 hP (i := i) (by omega) (n := k + 1) (sL_pL w i (k + 1)) lf_Na_15 d_Na_trim_17 ?_
      refine lv_iconst (v := nI (1)) hx hb d_Na_trim_20 (by decide) ?_
      refine nw_isub (v := nI (k)) hx hb d_Na_trim_21 (pk_sub (by omega)) ?_
      refine nw_lW hx hb hKW.1 hP (i := i) (by omega) (j := k) (by omega) (x := sW w i k) rfl d_Na_trim_22 ?_
      refine lv_if_ne (tgt := 39) hx hb d_Na_trim_23 (by decide) (fun c23 => ?_) (fun c23 => ?_)
      · exact W.vret hx hb hr (fun t ht hW => ⟨⟨pL w i (k + 1), rfl, by rw [← hkn, show tl (sW w i) (k + 1) = k + 1 from if_neg c23], BW_of ht hP⟩, hS.F ht⟩) hS.2.2 d_Na_trim_39
      · skip
        refine lv_aload_n hx hb d_Na_trim_26 rfl (lv_at hl 0 rfl) ?_
        refine lv_dup hx hb d_Na_trim_27 rfl ?_
        refine nw_gL hx hb hts hown hKW.1 hP (i := i) (by omega) (n := k + 1) (sL_pL w i (k + 1)) lf_Na_15 d_Na_trim_28 ?_
        refine lv_iconst (v := nI (1)) hx hb d_Na_trim_31 (by decide) ?_
        refine nw_isub (v := nI (k)) hx hb d_Na_trim_32 (pk_sub (by omega)) ?_
        refine nw_pL hx hb hts hown hKW.1 hP hD hS (i := i) (by omega) lf_Na_15 d_Na_trim_33 (fun H locs hP hD hS => ?_)
        refine lv_goto (tgt := 5) hx hb d_Na_trim_36 (by decide) ?_
        rw [pL_pL] at hP hD
        have hkn2 : tl (sW w i) k = tl (sW w i) n := by rw [← hkn, show tl (sW w i) (k + 1) = tl (sW w i) k from if_pos c23]
        have hk62 : k ≤ 6272 := by omega
        apply ih <;> assumption
end
section
/-! BITS OF A WORD -/
theorem wN_or (x y : Int32) : wN (x ||| y) = wN x ||| wN y := by
  show (x.toBitVec ||| y.toBitVec).toNat = _
  rw [BitVec.toNat_or]
  rfl
abbrev us (x : Int32) (k : Nat) : Int32 := (x.toUInt32 >>> ((nI k).toUInt32 &&& Int32.toUInt32 31)).toInt32
theorem wN_us1 (x : Int32) : wN (us x 1) = wN x >>> 1 := by rw [Nat.shiftRight_eq_div_pow]; exact pk_ushr x (nI 1) 1 (by decide)
theorem wN_us2 (x : Int32) : wN (us x 2) = wN x >>> 2 := by rw [Nat.shiftRight_eq_div_pow]; exact pk_ushr x (nI 2) 2 (by decide)
theorem wN_us4 (x : Int32) : wN (us x 4) = wN x >>> 4 := by rw [Nat.shiftRight_eq_div_pow]; exact pk_ushr x (nI 4) 4 (by decide)
theorem wN_us8 (x : Int32) : wN (us x 8) = wN x >>> 8 := by rw [Nat.shiftRight_eq_div_pow]; exact pk_ushr x (nI 8) 8 (by decide)
theorem wN_us16 (x : Int32) : wN (us x 16) = wN x >>> 16 := by rw [Nat.shiftRight_eq_div_pow]; exact pk_ushr x (nI 16) 16 (by decide)
/-- the count of bits as the JDK makes it -/
def bc1 (x : Int32) : Int32 := x - (us x 1 &&& 1431655765)
def bc2 (x : Int32) : Int32 := (x &&& 858993459) + (us x 2 &&& 858993459)
def bc3 (x : Int32) : Int32 := (x + us x 4) &&& 252645135
def bc4 (x : Int32) : Int32 := x + us x 8
def bc5 (x : Int32) : Int32 := x + us x 16
def bc (x : Int32) : Int32 := bc5 (bc4 (bc3 (bc2 (bc1 x)))) &&& nI 63
theorem bc_pow : ∀ k, k < 33 → bc (nI (2 ^ k - 1)) = nI k := by decide +kernel
/-- the bits of a word by its smeared form -/
theorem bits_smear {x z1 z2 z3 z4 z5 : Int32} (e1 : z1 = x ||| us x 1) (e2 : z2 = z1 ||| us z1 2) (e3 : z3 = z2 ||| us z2 4) (e4 : z4 = z3 ||| us z3 8) (e5 : z5 = z4 ||| us z4 16) : bc z5 = nI (nb (wN x)) := by
  have s1 : Sm (wN x) 2 (wN z1) := by rw [e1, wN_or, wN_us1]; exact sm_dbl (sm_1 _)
  have s2 : Sm (wN x) 4 (wN z2) := by rw [e2, wN_or, wN_us2]; exact sm_dbl s1
  have s3 : Sm (wN x) 8 (wN z3) := by rw [e3, wN_or, wN_us4]; exact sm_dbl s2
  have s4 : Sm (wN x) 16 (wN z4) := by rw [e4, wN_or, wN_us8]; exact sm_dbl s3
  have s5 : Sm (wN x) 32 (wN z5) := by rw [e5, wN_or, wN_us16]; exact sm_dbl s4
  have h : wN z5 = 2 ^ nb (wN x) - 1 := sm_32 s5 (wN_lt x)
  have hb : nb (wN x) ≤ 32 := nb_le_iff.mpr (wN_lt x)
  rw [← nI_wN z5, h]
  exact bc_pow _ (by omega)
end
section
/-! WORDS AND ROOM of a call, out of the one list of words -/
section CW
variable {R : Room} {s : State} {args : Array Value} {own C host : String} {index maxL mc ms : Nat} {y : MethodName} {bytes : ByteArray} {ret : Option FieldType} {rm : Room} {c0 c2 : Cond}
/-- a static method of any class -/
theorem cwS0 (n : Nat) (ht : ∀ w ∈ c0 :: wA, w.before args s = true) (h1 : Cond.methodLink own index y ∈ wA) (h2 : Cond.static y ∈ wA) (h3 : Cond.initialized y.cls ∈ wA) (h5 : c2 ∈ wA) (hw : c2 = Cond.code y bytes maxL ret) (hrc : rm.cells = mc) (hrs : rm.slots = ms)
    (hd : y.cls ≠ "java/lang/invoke/MethodHandle" ∧ y.cls ≠ "java/lang/invoke/VarHandle" ∧ (parseMethodDescriptor y.desc).map (fun d => d.parameters.length) = some n) (hR : rm.frames + 1 ≤ R.frames ∧ 8 + (maxL + 11) + rm.locals ≤ R.locals) :
    CallB R s args own index y bytes maxL ret (c2 :: wA) rm mc ms n ∧ (Cond.static y).before args s = true :=
  ⟨callB_of n ht (gA h5) (by rw [hw]) hrc hrs (hA_ ht h3) (hA_ ht h1) hd hR, hA_ ht h2⟩
/-- a virtual method (the private ones too) -/
theorem cwV0 (n : Nat) (ht : ∀ w ∈ c0 :: wA, w.before args s = true) (h1 : Cond.methodLink own index y ∈ wA) (h2 : Cond.instanceMethod y ∈ wA) (h3 : Cond.selects C y y ∈ wA) (h4 : Cond.initialized y.cls ∈ wA) (h5 : c2 ∈ wA) (hw : c2 = Cond.code y bytes maxL ret) (hrc : rm.cells = mc) (hrs : rm.slots = ms)
    (hd : y.cls ≠ "java/lang/invoke/MethodHandle" ∧ y.cls ≠ "java/lang/invoke/VarHandle" ∧ (parseMethodDescriptor y.desc).map (fun d => d.parameters.length) = some n) (hR : rm.frames + 1 ≤ R.frames ∧ 8 + (maxL + 11) + rm.locals ≤ R.locals) :
    CallW R s args own C index y bytes maxL ret (c2 :: wA) rm mc ms n :=
  ⟨callB_of n ht (gA h5) (by rw [hw]) hrc hrs (hA_ ht h4) (hA_ ht h1) hd hR, hA_ ht h2, hA_ ht h3⟩
/-- a private static method of a nest mate -/
theorem cwN0 (n : Nat) (ht : ∀ w ∈ c0 :: wA, w.before args s = true) (hKB : KB s) (h1 : Cond.methodLinkNest own index y host ∈ wB) (h2 : Cond.static y ∈ wA) (h3 : Cond.initialized y.cls ∈ wA) (h5 : c2 ∈ wA) (hw : c2 = Cond.code y bytes maxL ret) (hrc : rm.cells = mc) (hrs : rm.slots = ms)
    (hd : y.cls ≠ "java/lang/invoke/MethodHandle" ∧ y.cls ≠ "java/lang/invoke/VarHandle" ∧ (parseMethodDescriptor y.desc).map (fun d => d.parameters.length) = some n) (hR : rm.frames + 1 ≤ R.frames ∧ 8 + (maxL + 11) + rm.locals ≤ R.locals) :
    va_CN R s args own index y host bytes maxL ret (c2 :: wA) rm mc ms n ∧ (Cond.static y).before args s = true ∧ True :=
  ⟨va_cnB n ht (gA h5) (by rw [hw]) hrc hrs (hKB _ h1) (hA_ ht h3) hd hR, hA_ ht h2, trivial⟩
theorem nest_Na : Cond.methodLinkNest R_Na 19 y_Lw_bitsOf R_Lw ∈ wB := List.mem_of_getElem? (i := 0) rfl
theorem nest_Be : Cond.methodLinkNest R_Be 46 y_Lw_bitsOf R_Lw ∈ wB := List.mem_of_getElem? (i := 1) rfl
theorem nest_Ro : Cond.methodLinkNest R_Ro 65 y_Lw_bitsOf R_Lw ∈ wB := List.mem_of_getElem? (i := 2) rfl
end CW
end
section
set_option maxHeartbeats 4000000 in
set_option maxRecDepth 100000 in
/-- Integer.bitCount -/
theorem c_Ji_bitCount (l : Launch) {D : va_G} {cI cB cR : ClassId} {ad : Nat → Nat} (w : St) (sz : Nat) (x : Int32) : Met l y_Ji_bitCount (q_Ji_bitCount :: wA) { frames := 0, cells := 0, slots := 0, locals := 0 } (va_Pc [.int (x)] (PW D cI cB cR ad w sz)) (va_Qi (fun (r : Int32) (w1 : St) => r = bc x ∧ w1 = w) (BW D cI cB cR ad) (AA ad sz)) 0 0 (AA ad sz) := by
  refine Met.ofW (cc := b_Ji_bitCount) (maxL := 1) (ret := (some (.int))) (by decide) rfl ?_
  intro p e s m args below meth c s₁ B hml hv
  obtain ⟨rfl, hsz, hP, hD0, hKW⟩ := hv
  have hx := B.exec
  have hb := B.bytes
  have hr := B.returns
  have hts := atoms_spec (ws := q_Ji_bitCount :: wA) B.pre
  have hown : s.vm.findClass R_Ji = some m.cls := findClass_of_methodNamed B.named
  have hlocks := B.notSynchronized
  subst hsz
  have hD := NC_AA (sz := s.heap.size) hD0
  have hS : va_S (AA ad s.heap.size) s.heap s.heap [] := va_S.rf
  have hl := lv_entry ([.int (x)]) (n := 1) (Nat.le_of_ble_eq_true rfl)
  rw [lg_entry_eq]
  generalize (lg_sl ([.int (x)]) ++ List.replicate (1 - (lg_sl ([.int (x)])).length) Slot.unset).toArray = ls at hl ⊢
  have hl : lv_has ls 1 [(0, .int (x))] := hl
  refine lv_iload_n hx hb d_Ji_bitCount_0 rfl (lv_at hl 0 rfl) ?_
  refine lv_iload_n hx hb d_Ji_bitCount_1 rfl (lv_at hl 0 rfl) ?_
  refine lv_iconst (v := nI (1)) hx hb d_Ji_bitCount_2 (by decide) ?_
  refine lv_iushr (v := us x 1) hx hb d_Ji_bitCount_3 rfl ?_
  refine lv_ldcw (v := 1431655765) hx hb hown (hA_ hts lk_Ji_265) d_Ji_bitCount_4 ?_
  refine nw_iand (v := (us x 1) &&& 1431655765) hx hb d_Ji_bitCount_7 rfl ?_
  refine nw_isub (v := x - ((us x 1) &&& 1431655765)) hx hb d_Ji_bitCount_8 rfl ?_
  refine lv_topi (fun z1 e1 => ?_)
  refine lv_istore_n (lv' := [(0, .int (z1))]) hx hb d_Ji_bitCount_9 rfl hl (by decide) rfl (fun ls hl => ?_)
  refine lv_iload_n hx hb d_Ji_bitCount_10 rfl (lv_at hl 0 rfl) ?_
  refine lv_ldcw (v := 858993459) hx hb hown (hA_ hts lk_Ji_266) d_Ji_bitCount_11 ?_
  refine nw_iand (v := z1 &&& 858993459) hx hb d_Ji_bitCount_14 rfl ?_
  refine lv_iload_n hx hb d_Ji_bitCount_15 rfl (lv_at hl 0 rfl) ?_
  refine lv_iconst (v := nI (2)) hx hb d_Ji_bitCount_16 (by decide) ?_
  refine lv_iushr (v := us z1 2) hx hb d_Ji_bitCount_17 rfl ?_
  refine lv_ldcw (v := 858993459) hx hb hown (hA_ hts lk_Ji_266) d_Ji_bitCount_18 ?_
  refine nw_iand (v := (us z1 2) &&& 858993459) hx hb d_Ji_bitCount_21 rfl ?_
  refine nw_iadd (v := (z1 &&& 858993459) + ((us z1 2) &&& 858993459)) hx hb d_Ji_bitCount_22 rfl ?_
  refine lv_topi (fun z2 e2 => ?_)
  refine lv_istore_n (lv' := [(0, .int (z2))]) hx hb d_Ji_bitCount_23 rfl hl (by decide) rfl (fun ls hl => ?_)
  refine lv_iload_n hx hb d_Ji_bitCount_24 rfl (lv_at hl 0 rfl) ?_
  refine lv_iload_n hx hb d_Ji_bitCount_25 rfl (lv_at hl 0 rfl) ?_
  refine lv_iconst (v := nI (4)) hx hb d_Ji_bitCount_26 (by decide) ?_
  refine lv_iushr (v := us z2 4) hx hb d_Ji_bitCount_27 rfl ?_
  refine nw_iadd (v := z2 + (us z2 4)) hx hb d_Ji_bitCount_28 rfl ?_
  refine lv_ldcw (v := 252645135) hx hb hown (hA_ hts lk_Ji_267) d_Ji_bitCount_29 ?_
  refine nw_iand (v := (z2 + (us z2 4)) &&& 252645135) hx hb d_Ji_bitCount_32 rfl ?_
  refine lv_topi (fun z3 e3 => ?_)
  refine lv_istore_n (lv' := [(0, .int (z3))]) hx hb d_Ji_bitCount_33 rfl hl (by decide) rfl (fun ls hl => ?_)
  refine lv_iload_n hx hb d_Ji_bitCount_34 rfl (lv_at hl 0 rfl) ?_
  refine lv_iload_n hx hb d_Ji_bitCount_35 rfl (lv_at hl 0 rfl) ?_
  refine lv_bipush (v := nI (8)) hx hb d_Ji_bitCount_36 (by decide) ?_
  refine lv_iushr (v := us z3 8) hx hb d_Ji_bitCount_38 rfl ?_
  refine nw_iadd (v := z3 + (us z3 8)) hx hb d_Ji_bitCount_39 rfl ?_
  refine lv_topi (fun z4 e4 => ?_)
  refine lv_istore_n (lv' := [(0, .int (z4))]) hx hb d_Ji_bitCount_40 rfl hl (by decide) rfl (fun ls hl => ?_)
  refine lv_iload_n hx hb d_Ji_bitCount_41 rfl (lv_at hl 0 rfl) ?_
  refine lv_iload_n hx hb d_Ji_bitCount_42 rfl (lv_at hl 0 rfl) ?_
  refine lv_bipush (v := nI (16)) hx hb d_Ji_bitCount_43 (by decide) ?_
  refine lv_iushr (v := us z4 16) hx hb d_Ji_bitCount_45 rfl ?_
  refine nw_iadd (v := z4 + (us z4 16)) hx hb d_Ji_bitCount_46 rfl ?_
  refine lv_topi (fun z5 e5 => ?_)
  refine lv_istore_n (lv' := [(0, .int (z5))]) hx hb d_Ji_bitCount_47 rfl hl (by decide) rfl (fun ls hl => ?_)
  refine lv_iload_n hx hb d_Ji_bitCount_48 rfl (lv_at hl 0 rfl) ?_
  refine lv_bipush (v := nI (63)) hx hb d_Ji_bitCount_49 (by decide) ?_
  refine nw_iand (v := z5 &&& (nI (63))) hx hb d_Ji_bitCount_51 rfl ?_
  exact W.iret (v := z5 &&& (nI (63))) hx hb hr (fun t ht hW => ⟨⟨_, w, rfl, ⟨by subst e1 e2 e3 e4 e5; rfl, rfl⟩, BW_of ht hP⟩, hS.F ht⟩) hS.2.2 d_Ji_bitCount_52
set_option maxHeartbeats 4000000 in
set_option maxRecDepth 100000 in
/-- bitsOf(word) -/
theorem c_Lw_bitsOf (l : Launch) {D : va_G} {cI cB cR : ClassId} {ad : Nat → Nat} (w : St) (sz : Nat) (x : Int32) : Met l y_Lw_bitsOf (q_Lw_bitsOf :: wA) { frames := 1, cells := 0, slots := 0, locals := 20 } (va_Pc [.int (x)] (PW D cI cB cR ad w sz)) (va_Qi (fun (r : Int32) (w1 : St) => r = nI (nb (wN x)) ∧ w1 = w) (BW D cI cB cR ad) (AA ad sz)) 0 0 (AA ad sz) := by
  refine Met.ofW (cc := b_Lw_bitsOf) (maxL := 2) (ret := (some (.int))) (by decide) rfl ?_
  intro p e s m args below meth c s₁ B hml hv
  obtain ⟨rfl, hsz, hP, hD0, hKW⟩ := hv
  have hx := B.exec
  have hb := B.bytes
  have hr := B.returns
  have hts := atoms_spec (ws := q_Lw_bitsOf :: wA) B.pre
  have hown : s.vm.findClass R_Lw = some m.cls := findClass_of_methodNamed B.named
  have hlocks := B.notSynchronized
  subst hsz
  have hD := NC_AA (sz := s.heap.size) hD0
  have hS : va_S (AA ad s.heap.size) s.heap s.heap [] := va_S.rf
  have hl := lv_entry ([.int (x)]) (n := 2) (Nat.le_of_ble_eq_true rfl)
  rw [lg_entry_eq]
  generalize (lg_sl ([.int (x)]) ++ List.replicate (2 - (lg_sl ([.int (x)])).length) Slot.unset).toArray = ls at hl ⊢
  have hl : lv_has ls 2 [(0, .int (x))] := hl
  refine lv_iload_n hx hb d_Lw_bitsOf_0 rfl (lv_at hl 0 rfl) ?_
  refine lv_iload_n hx hb d_Lw_bitsOf_1 rfl (lv_at hl 0 rfl) ?_
  refine lv_iconst (v := nI (1)) hx hb d_Lw_bitsOf_2 (by decide) ?_
  refine lv_iushr (v := us x 1) hx hb d_Lw_bitsOf_3 rfl ?_
  refine nw_ior (v := x ||| (us x 1)) hx hb d_Lw_bitsOf_4 rfl ?_
  refine lv_topi (fun z1 e1 => ?_)
  refine lv_istore_n (lv' := [(1, .int (z1)), (0, .int (x))]) hx hb d_Lw_bitsOf_5 rfl hl (by decide) rfl (fun ls hl => ?_)
  refine lv_iload_n hx hb d_Lw_bitsOf_6 rfl (lv_at hl 0 rfl) ?_
  refine lv_iload_n hx hb d_Lw_bitsOf_7 rfl (lv_at hl 0 rfl) ?_
  refine lv_iconst (v := nI (2)) hx hb d_Lw_bitsOf_8 (by decide) ?_
  refine lv_iushr (v := us z1 2) hx hb d_Lw_bitsOf_9 rfl ?_
  refine nw_ior (v := z1 ||| (us z1 2)) hx hb d_Lw_bitsOf_10 rfl ?_
  refine lv_topi (fun z2 e2 => ?_)
  refine lv_istore_n (lv' := [(1, .int (z2)), (0, .int (x))]) hx hb d_Lw_bitsOf_11 rfl hl (by decide) rfl (fun ls hl => ?_)
  refine lv_iload_n hx hb d_Lw_bitsOf_12 rfl (lv_at hl 0 rfl) ?_
  refine lv_iload_n hx hb d_Lw_bitsOf_13 rfl (lv_at hl 0 rfl) ?_
  refine lv_iconst (v := nI (4)) hx hb d_Lw_bitsOf_14 (by decide) ?_
  refine lv_iushr (v := us z2 4) hx hb d_Lw_bitsOf_15 rfl ?_
  refine nw_ior (v := z2 ||| (us z2 4)) hx hb d_Lw_bitsOf_16 rfl ?_
  refine lv_topi (fun z3 e3 => ?_)
  refine lv_istore_n (lv' := [(1, .int (z3)), (0, .int (x))]) hx hb d_Lw_bitsOf_17 rfl hl (by decide) rfl (fun ls hl => ?_)
  refine lv_iload_n hx hb d_Lw_bitsOf_18 rfl (lv_at hl 0 rfl) ?_
  refine lv_iload_n hx hb d_Lw_bitsOf_19 rfl (lv_at hl 0 rfl) ?_
  refine lv_bipush (v := nI (8)) hx hb d_Lw_bitsOf_20 (by decide) ?_
  refine lv_iushr (v := us z3 8) hx hb d_Lw_bitsOf_22 rfl ?_
  refine nw_ior (v := z3 ||| (us z3 8)) hx hb d_Lw_bitsOf_23 rfl ?_
  refine lv_topi (fun z4 e4 => ?_)
  refine lv_istore_n (lv' := [(1, .int (z4)), (0, .int (x))]) hx hb d_Lw_bitsOf_24 rfl hl (by decide) rfl (fun ls hl => ?_)
  refine lv_iload_n hx hb d_Lw_bitsOf_25 rfl (lv_at hl 0 rfl) ?_
  refine lv_iload_n hx hb d_Lw_bitsOf_26 rfl (lv_at hl 0 rfl) ?_
  refine lv_bipush (v := nI (16)) hx hb d_Lw_bitsOf_27 (by decide) ?_
  refine lv_iushr (v := us z4 16) hx hb d_Lw_bitsOf_29 rfl ?_
  refine nw_ior (v := z4 ||| (us z4 16)) hx hb d_Lw_bitsOf_30 rfl ?_
  refine lv_topi (fun z5 e5 => ?_)
  refine lv_istore_n (lv' := [(1, .int (z5)), (0, .int (x))]) hx hb d_Lw_bitsOf_31 rfl hl (by decide) rfl (fun ls hl => ?_)
  refine lv_iload_n hx hb d_Lw_bitsOf_32 rfl (lv_at hl 0 rfl) ?_
  refine wS_i (As := [.int z5]) (rest := []) (n := 1) ⟨hx, hb, hml, hown, hts⟩ (c_Ji_bitCount l w _ z5) (cwS0 1 hts lm_Lw_169 st_Ji_bitCount in_Ji kq_Ji_bitCount rfl rfl rfl (by decide +kernel) ⟨Nat.le_of_ble_eq_true rfl, Nat.le_of_ble_eq_true rfl⟩) hKW hP hD hS rfl hl.1 rfl (by decide) d_Lw_bitsOf_33 ⟨Nat.zero_le _, Nat.zero_le _⟩ (fun r w1 H locs hp hP hD hS => ?_)
  obtain ⟨hp, ew⟩ := hp
  rw [ew] at hP hD
  exact W.iret (v := r) hx hb hr (fun t ht hW => ⟨⟨_, _, rfl, ⟨hp.trans (bits_smear e1 e2 e3 e4 e5), rfl⟩, BW_of ht hP⟩, hS.F ht⟩) hS.2.2 d_Lw_bitsOf_36
end
section
/-! A NUMBER'S VALUE in the world; what else stays -/
def NV (w : St) (i v : Nat) : Prop := sL w i ≤ 6272 ∧ (sL w i = 0 ∨ sW w i (sL w i - 1) ≠ 0) ∧ vN (sW w i) 0 (sL w i) = v
def eqN (w w1 : St) (i : Nat) : Prop := (∀ j, j ≠ i → sW w1 j = sW w j ∧ sL w1 j = sL w j) ∧ w1.2.2 = w.2.2
theorem eqN_refl (w : St) (i : Nat) : eqN w w i := ⟨fun _ _ => ⟨rfl, rfl⟩, rfl⟩
theorem eqN.trans {w w1 w2 : St} {i : Nat} (h : eqN w w1 i) (h2 : eqN w1 w2 i) : eqN w w2 i :=
  ⟨fun j hj => ⟨(h2.1 j hj).1.trans (h.1 j hj).1, (h2.1 j hj).2.trans (h.1 j hj).2⟩, h2.2.trans h.2⟩
theorem eqN.nv {w w1 : St} {i j v : Nat} (h : eqN w w1 i) (hj : j ≠ i) (hv : NV w j v) : NV w1 j v := by
  unfold NV
  rw [(h.1 j hj).1, (h.1 j hj).2]
  exact hv
theorem eqN_tr (w : St) (i : Nat) (f : Nat → Int32) (k : Nat) : eqN w (pL (pW w i f) i k) i := by
  refine ⟨fun j hj => ⟨?_, ?_⟩, rfl⟩
  · show sW (pW w i f) j = sW w j
    exact sW_pWn w f hj
  · rw [sL_pLn _ _ hj]
    rfl
theorem NV_tr {w : St} {i n : Nat} {f : Nat → Int32} (hn : n ≤ 6272) : NV (pL (pW w i f) i (tl f n)) i (vN f 0 n) := by
  have h1 : sL (pL (pW w i f) i (tl f n)) i = tl f n := sL_pL _ _ _
  have h2 : sW (pL (pW w i f) i (tl f n)) i = f := sW_pW w i f
  unfold NV
  rw [h1, h2]
  exact ⟨Nat.le_trans (tl_le f n) hn, tl_top f n, tl_val f n⟩
theorem NV.len {w : St} {i v : Nat} (h : NV w i v) : sL w i ≤ 6272 := h.1
theorem NV.lt {w : St} {i v : Nat} (h : NV w i v) : v < 4294967296 ^ sL w i := by rw [← h.2.2]; exact vN_lt _ _ _
theorem NV.ge {w : St} {i v : Nat} (h : NV w i v) (h0 : sL w i ≠ 0) : 4294967296 ^ (sL w i - 1) ≤ v := by
  rcases h.2.1 with q | q
  · exact absurd q h0
  · have := vN_ge (f := sW w i) (a := 0) (n := sL w i - 1) (by rw [Nat.zero_add]; exact q)
    rw [show sL w i - 1 + 1 = sL w i by omega, h.2.2] at this
    exact this
theorem NV.zero {w : St} {i v : Nat} (h : NV w i v) : sL w i = 0 ↔ v = 0 := by
  constructor
  · intro q
    have := h.2.2
    rw [q] at this
    exact this.symm
  · intro q
    rcases Nat.eq_zero_or_pos (sL w i) with z | z
    · exact z
    · have := h.ge (by omega)
      rw [q] at this
      exact absurd this (Nat.not_le.mpr (Nat.pow_pos (by decide)))
theorem NV.nb {w : St} {i v : Nat} (h : NV w i v) (h0 : sL w i ≠ 0) : nb v = 32 * (sL w i - 1) + nb (wN (sW w i (sL w i - 1))) := by
  rcases h.2.1 with q | q
  · exact absurd q h0
  · have := nb_vN (f := sW w i) (a := 0) (n := sL w i - 1) (by rw [Nat.zero_add]; exact q)
    rw [show sL w i - 1 + 1 = sL w i by omega, h.2.2, Nat.zero_add] at this
    exact this
theorem ch_add0 {f : Nat → Int32} {i c t V : Nat} (h : vN f 0 i + c * 4294967296 ^ i = V) : vN (upd f i (nI (c + t))) 0 (i + 1) + (c + t) / 4294967296 * 4294967296 ^ (i + 1) = V + t * 4294967296 ^ i := by
  have := ch_add (a := 0) (t := t) h
  rw [Nat.zero_add] at this
  exact this
theorem ch_addZ0 {f : Nat → Int32} {i : Nat} {c t V : Int} (h : (vN f 0 i : Int) + c * 4294967296 ^ i = V) : (vN (upd f i (lZ (c + t)).toInt32) 0 (i + 1) : Int) + (c + t) / 4294967296 * 4294967296 ^ (i + 1) = V + t * 4294967296 ^ i := by
  have := ch_addZ (a := 0) (t := t) h
  rw [Nat.zero_add] at this
  exact this
theorem vN_suc0 (f : Nat → Int32) (n : Nat) : vN f 0 (n + 1) = vN f 0 n + wN (f n) * 4294967296 ^ n := by rw [vN_succ, Nat.zero_add]
/-- the first j of m words -/
def vM (f : Nat → Int32) (m j : Nat) : Nat := vN f 0 (min j m)
theorem vM_0 (f : Nat → Int32) (m : Nat) : vM f m 0 = 0 := by unfold vM; rw [Nat.zero_min]; rfl
theorem vM_lt {f : Nat → Int32} {m j : Nat} (h : j < m) : vM f m (j + 1) = vM f m j + wN (f j) * 4294967296 ^ j := by
  unfold vM
  rw [Nat.min_eq_left (by omega), Nat.min_eq_left (by omega), vN_suc0]
theorem vM_ge {f : Nat → Int32} {m j : Nat} (h : m ≤ j) : vM f m (j + 1) = vM f m j := by
  unfold vM
  rw [Nat.min_eq_right (by omega), Nat.min_eq_right h]
theorem vM_all {f : Nat → Int32} {m j : Nat} (h : m ≤ j) : vM f m j = vN f 0 m := by
  unfold vM
  rw [Nat.min_eq_right h]
end
section
/-! NUMBERS: the contracts of Natural, 2 (rows laid by wip/whole/gen/c_na2.py) -/
set_option maxHeartbeats 4000000 in
set_option maxRecDepth 100000 in
/-- countBits() -/
theorem c_Na_countBits (l : Launch) {D : va_G} {cI cB cR : ClassId} {ad : Nat → Nat} (w : St) (sz : Nat) {i v : Nat} (hi : i < 14) (hv : NV w i v) : Met l y_Na_countBits (q_Na_countBits :: wA) { frames := 2, cells := 0, slots := 0, locals := 60 } (va_Pc [.ref (ad (2 * i + 8))] (PW D cI cB cR ad w sz)) (va_Qi (fun (r : Int32) (w1 : St) => r = nI (nb v) ∧ w1 = w) (BW D cI cB cR ad) (AA ad sz)) 0 0 (AA ad sz) := by
  refine Met.ofW (cc := b_Na_countBits) (maxL := 1) (ret := (some (.int))) (by decide) rfl ?_
  intro p e s m args below meth c s₁ B hml hv
  obtain ⟨rfl, hsz, hP, hD0, hKW⟩ := hv
  have hx := B.exec
  have hb := B.bytes
  have hr := B.returns
  have hts := atoms_spec (ws := q_Na_countBits :: wA) B.pre
  have hown : s.vm.findClass R_Na = some m.cls := findClass_of_methodNamed B.named
  have hlocks := B.notSynchronized
  subst hsz
  have hD := NC_AA (sz := s.heap.size) hD0
  have hS : va_S (AA ad s.heap.size) s.heap s.heap [] := va_S.rf
  have hl := lv_entry ([.ref (ad (2 * i + 8))]) (n := 1) (Nat.le_of_ble_eq_true rfl)
  rw [lg_entry_eq]
  generalize (lg_sl ([.ref (ad (2 * i + 8))]) ++ List.replicate (1 - (lg_sl ([.ref (ad (2 * i + 8))])).length) Slot.unset).toArray = ls at hl ⊢
  have hl : lv_has ls 1 [(0, .ref (ad (2 * i + 8)))] := hl
  have hlen := hv.len
  refine lv_aload_n hx hb d_Na_countBits_0 rfl (lv_at hl 0 rfl) ?_
  refine nw_gL hx hb hts hown hKW.1 hP (i := i) (by omega) (n := sL (w) i) rfl lf_Na_15 d_Na_countBits_1 ?_
  refine lv_if_ne (tgt := 11) hx hb d_Na_countBits_4 (by decide) (fun c4 => ?_) (fun c4 => ?_)
  · skip
    have c4 : ¬ (sL (w) i = 0) := fun h => c4 (by have := (nI_eq (by omega) (by omega)).mpr h; rwa [nI_0] at this)
    have c4 : ¬ sL w i = 0 := c4
    refine lv_bipush (v := nI (32)) hx hb d_Na_countBits_11 (by decide) ?_
    refine lv_aload_n hx hb d_Na_countBits_13 rfl (lv_at hl 0 rfl) ?_
    refine nw_gL hx hb hts hown hKW.1 hP (i := i) (by omega) (n := sL (w) i) rfl lf_Na_15 d_Na_countBits_14 ?_
    refine lv_iconst (v := nI (1)) hx hb d_Na_countBits_17 (by decide) ?_
    refine nw_isub (v := nI (sL w i - 1)) hx hb d_Na_countBits_18 (pk_sub (by omega)) ?_
    refine nw_imul (v := nI (32 * (sL w i - 1))) hx hb d_Na_countBits_19 (pk_mul _ _) ?_
    refine lv_aload_n hx hb d_Na_countBits_20 rfl (lv_at hl 0 rfl) ?_
    refine nw_gW hx hb hts hown hKW.1 hP (i := i) (by omega) lf_Na_9 d_Na_countBits_21 ?_
    refine lv_aload_n hx hb d_Na_countBits_24 rfl (lv_at hl 0 rfl) ?_
    refine nw_gL hx hb hts hown hKW.1 hP (i := i) (by omega) (n := sL (w) i) rfl lf_Na_15 d_Na_countBits_25 ?_
    refine lv_iconst (v := nI (1)) hx hb d_Na_countBits_28 (by decide) ?_
    refine nw_isub (v := nI (sL w i - 1)) hx hb d_Na_countBits_29 (pk_sub (by omega)) ?_
    refine nw_lW hx hb hKW.1 hP (i := i) (by omega) (j := sL w i - 1) (by omega) (x := sW (w) i (sL w i - 1)) rfl d_Na_countBits_30 ?_
    refine wSN_i (As := [.int (sW (w) i (sL w i - 1))]) (rest := [.int (nI (32 * (sL w i - 1)))]) (n := 1) ⟨hx, hb, hml, hown, hts⟩ (c_Lw_bitsOf l w _ (sW w i (sL w i - 1))) (cwN0 1 hts hKW.2.1 nest_Na st_Lw_bitsOf in_Lw kq_Lw_bitsOf rfl rfl rfl (by decide +kernel) ⟨Nat.le_of_ble_eq_true rfl, Nat.le_of_ble_eq_true rfl⟩) hKW hP hD hS rfl hl.1 rfl (Nat.le_of_ble_eq_true rfl) d_Na_countBits_31 ⟨Nat.zero_le _, Nat.zero_le _⟩ (fun r w1 H locs hp hP hD hS => ?_)
    obtain ⟨hp, ew⟩ := hp
    rw [ew] at hP hD
    subst hp
    refine nw_iadd (v := nI (32 * (sL w i - 1) + (nb (wN (sW w i (sL w i - 1)))))) hx hb d_Na_countBits_34 (nI_add _ _) ?_
    rw [show 32 * (sL w i - 1) + nb (wN (sW w i (sL w i - 1))) = nb v from (hv.nb c4).symm]
    exact W.iret (v := nI (nb v)) hx hb hr (fun t ht hW => ⟨⟨_, w, rfl, ⟨rfl, rfl⟩, BW_of ht hP⟩, hS.F ht⟩) hS.2.2 d_Na_countBits_35
  · skip
    have c4 : sL (w) i = 0 := (nI_eq (by omega) (by omega)).mp (by rw [nI_0]; exact c4)
    have hz : v = 0 := hv.zero.mp (by omega)
    refine lv_iconst (v := nI (0)) hx hb d_Na_countBits_7 (by decide) ?_
    refine lv_goto (tgt := 35) hx hb d_Na_countBits_8 (by decide) ?_
    exact W.iret (v := nI (0)) hx hb hr (fun t ht hW => ⟨⟨_, w, rfl, ⟨by rw [hz, nb_0], rfl⟩, BW_of ht hP⟩, hS.F ht⟩) hS.2.2 d_Na_countBits_35
set_option maxHeartbeats 4000000 in
set_option maxRecDepth 100000 in
/-- putLong(value) -/
theorem c_Na_putLong (l : Launch) {D : va_G} {cI cB cR : ClassId} {ad : Nat → Nat} (w : St) (sz : Nat) {i : Nat} (hi : i < 14) (x : Int64) : Met l y_Na_putLong (q_Na_putLong :: wA) { frames := 1, cells := 0, slots := 0, locals := 24 } (va_Pc [.ref (ad (2 * i + 8)), .long (x)] (PW D cI cB cR ad w sz)) (va_Qv (fun w1 : St => eqN w w1 i ∧ NV w1 i (uL x)) (BW D cI cB cR ad) (AA ad sz)) 0 0 (AA ad sz) := by
  refine Met.ofW (cc := b_Na_putLong) (maxL := 3) (ret := none) (by decide) rfl ?_
  intro p e s m args below meth c s₁ B hml hv
  obtain ⟨rfl, hsz, hP, hD0, hKW⟩ := hv
  have hx := B.exec
  have hb := B.bytes
  have hr := B.returns
  have hts := atoms_spec (ws := q_Na_putLong :: wA) B.pre
  have hown : s.vm.findClass R_Na = some m.cls := findClass_of_methodNamed B.named
  have hlocks := B.notSynchronized
  subst hsz
  have hD := NC_AA (sz := s.heap.size) hD0
  have hS : va_S (AA ad s.heap.size) s.heap s.heap [] := va_S.rf
  have hl := lv_entry ([.ref (ad (2 * i + 8)), .long (x)]) (n := 3) (Nat.le_of_ble_eq_true rfl)
  rw [lg_entry_eq]
  generalize (lg_sl ([.ref (ad (2 * i + 8)), .long (x)]) ++ List.replicate (3 - (lg_sl ([.ref (ad (2 * i + 8)), .long (x)])).length) Slot.unset).toArray = ls at hl ⊢
  have hl : lv_has ls 3 [(0, .ref (ad (2 * i + 8))), (1, .long (x))] := hl
  obtain ⟨u, hu⟩ : ∃ u, u = uL x := ⟨_, rfl⟩
  have hu2 := uL_lt x
  have hux : x = lN u := by rw [hu, lN_uL]
  rw [← hu] at hu2
  subst hux
  have hl : lv_has ls 3 [(0, .ref (ad (2 * i + 8))), (1, .long (lN (u)))] := hl
  refine lv_aload_n hx hb d_Na_putLong_0 rfl (lv_at hl 0 rfl) ?_
  refine nw_gW hx hb hts hown hKW.1 hP (i := i) (by omega) lf_Na_9 d_Na_putLong_1 ?_
  refine lv_iconst (v := nI (0)) hx hb d_Na_putLong_4 (by decide) ?_
  refine lv_lload_n hx hb d_Na_putLong_5 rfl (lv_at hl 1 rfl) ?_
  refine lv_l2i (v := nI (u)) hx hb d_Na_putLong_6 (lN_i _) ?_
  refine nw_sW hx hb hKW.1 hP hD hS (i := i) (by omega) (j := 0) (by omega) d_Na_putLong_7 (fun H locs hP hD hS => ?_)
  refine lv_aload_n hx hb d_Na_putLong_8 rfl (lv_at hl 0 rfl) ?_
  refine nw_gW hx hb hts hown hKW.1 hP (i := i) (by omega) lf_Na_9 d_Na_putLong_9 ?_
  refine lv_iconst (v := nI (1)) hx hb d_Na_putLong_12 (by decide) ?_
  refine lv_lload_n hx hb d_Na_putLong_13 rfl (lv_at hl 1 rfl) ?_
  refine lv_bipush (v := nI (32)) hx hb d_Na_putLong_14 (by decide) ?_
  refine lv_lushr (v := lN (u / 4294967296)) hx hb d_Na_putLong_16 (lN_shr32 (by omega)) ?_
  refine lv_l2i (v := nI (u / 4294967296)) hx hb d_Na_putLong_17 (lN_i _) ?_
  refine nw_sW hx hb hKW.1 hP hD hS (i := i) (by omega) (j := 1) (by omega) d_Na_putLong_18 (fun H locs hP hD hS => ?_)
  refine lv_aload_n hx hb d_Na_putLong_19 rfl (lv_at hl 0 rfl) ?_
  refine lv_iconst (v := nI (2)) hx hb d_Na_putLong_20 (by decide) ?_
  refine wV_v (As := [.int (nI (2))]) (rest := []) (n := 1) ⟨hx, hb, hml, hown, hts⟩ (c_Na_trim l (pW (pW (w) i (upd (sW (w) i) (0) (nI (u)))) i (upd (sW (pW (w) i (upd (sW (w) i) (0) (nI (u)))) i) (1) (nI (u / 4294967296)))) _ (i := i) (n := 2) hi (by omega)) (cwV0 1 hts lm_Na_23 im_Na_trim se_Na_trim in_Na kq_Na_trim rfl rfl rfl (by decide +kernel) ⟨Nat.le_of_ble_eq_true rfl, Nat.le_of_ble_eq_true rfl⟩) (recvN hKW.1 hP (i := i) (by omega)) hKW hP hD hS rfl hl.1 rfl (Nat.le_of_ble_eq_true rfl) d_Na_putLong_21 ⟨Nat.zero_le _, Nat.zero_le _⟩ (fun w1 H locs hp hP hD hS => ?_)
  simp only [sW_pW, pW_pW] at hp
  have e2 : vN (upd (upd (sW w i) 0 (nI u)) 1 (nI (u / 4294967296))) 0 2 = u := by
    rw [vN_suc0, vN_suc0, vN_0, pk_us, pk_un (by decide), pk_us, wN_nI, wN_nI]
    omega
  exact W.vret hx hb hr (fun t ht hW => ⟨⟨w1, rfl, ⟨by rw [hp]; exact eqN_tr w i _ _, by rw [hp, ← hu]; have := NV_tr (w := w) (i := i) (n := 2) (f := upd (upd (sW w i) 0 (nI u)) 1 (nI (u / 4294967296))) (by decide); rw [e2] at this; exact this⟩, BW_of ht hP⟩, hS.F ht⟩) hS.2.2 d_Na_putLong_24
end
section
/-! COPIES between the rows of ints; words of System and Math -/
theorem ac_native : (.native arraycopyName : Cond) ∈ wA := inT 228 (by decide +kernel) rfl
theorem ac_static : (.static arraycopyName : Cond) ∈ wA := inT 227 (by decide +kernel) rfl
theorem in_System : (.initialized "java/lang/System" : Cond) ∈ wA := inT 12 (by decide +kernel) rfl
theorem in_Math : (.initialized "java/lang/Math" : Cond) ∈ wA := inT 20 (by decide +kernel) rfl
theorem st_max : (.static Lib.Math.max.name : Cond) ∈ wA := inT 327 (by decide +kernel) rfl
theorem st_min : (.static Lib.Math.min.name : Cond) ∈ wA := inT 345 (by decide +kernel) rfl
set_option maxRecDepth 20000 in
theorem kq_max : Cond.code Lib.Math.max.name Lib.Math.max.code 2 (some .int) ∈ wA := inT 328 (by decide +kernel) rfl
set_option maxRecDepth 20000 in
theorem kq_min : Cond.code Lib.Math.min.name Lib.Math.min.code 2 (some .int) ∈ wA := inT 346 (by decide +kernel) rfl
section CPY
variable {p : Program} {l : Launch} {e : Env} {R : Room} {s : State} {m : MethodId} {args : Array Value} {below : List Frame} {meth : Method} {c : Code} {H : Heap} {locs : List Loc} {cells slots : Nat} {Q : State → Prop}
variable {cc : ByteArray} {pc : Nat} {ls : Array Slot} {rest : List Value} {D : va_G} {A : Nat → Prop} {H0 : Heap} {cI cB cR : ClassId} {ad : Nat → Nat} {w : St} {own : String} {index : Nat} {c0 : Cond}
theorem nw_cWW (hexec : p.tables.exec = Jvm.exec) (hb : c.code = cc) (hml : c.maxLocals = ls.size) (hts : ∀ w ∈ c0 :: wA, w.before args s = true) (hown : s.vm.findClass own = some m.cls) (hlink : Cond.methodLink own index arraycopyName ∈ wA) (hK : va_K D clA (tyA cI cB cR) s) (hP : va_P D clA (NC cI cB cR ad w) H) (hD : va_D A (NC cI cB cR ad w)) (hS : va_S A H0 H locs) {a : Nat} (ha : a < 14) {i : Nat} (hi : i < 14) {sp dp n : Nat} (h4 : sp + n ≤ 6272) (h5 : dp + n ≤ 6272)
    (hframes : 1 ≤ R.frames) (hlocals : (rest.map fun v => v.category).sum + (nativeFrameWords "java/lang/System" "arraycopy" 5 + 11) ≤ R.locals) (hdg : decode cc pc = .ok (.invokestatic index, 3))
    (kk : ∀ (H1 : Heap) (locs1 : List Loc), va_P D clA (NC cI cB cR ad (pW w i (va_cpy (sW w a) (sW w i) sp dp n))) H1 → va_D A (NC cI cB cR ad (pW w i (va_cpy (sW w a) (sW w i) sp dp n))) → va_S A H0 H1 locs1 → W p l e R s m args below meth c H1 locs1 cells slots Q (F0 m (pc + 3) ls rest)) : W p l e R s m args below meth c H locs cells slots Q (F0 m pc ls (.int (nI n) :: .int (nI dp) :: .ref (ad (2 * i + 9)) :: .int (nI sp) :: .ref (ad (2 * a + 9)) :: rest)) := by
  refine va_copyi hexec hb hml hown (hA_ hts hlink) (hA_ hts ac_native) (hA_ hts ac_static) (hA_ hts in_System) hK hP hD hS (2 * a + 9) (2 * i + 9) 0 0 (ty := .int) (NC_w ha) (NC_w hi) rfl rfl rfl (nI_pos (by omega)) (nI_pos (by omega)) (nI_pos (by omega)) (by rw [nI_clamp (by omega), nI_clamp (by omega)]; exact h4) (by rw [nI_clamp (by omega), nI_clamp (by omega)]; exact h5) (fun _ _ => rfl) hframes hlocals hdg (fun H1 locs1 h1 h2 h3 => ?_)
  rw [nI_clamp (by omega), nI_clamp (by omega), nI_clamp (by omega)] at h1 h2
  exact kk H1 locs1 (NC_pW hi ▸ h1) (NC_pW hi ▸ h2) h3
theorem nw_cWR (hexec : p.tables.exec = Jvm.exec) (hb : c.code = cc) (hml : c.maxLocals = ls.size) (hts : ∀ w ∈ c0 :: wA, w.before args s = true) (hown : s.vm.findClass own = some m.cls) (hlink : Cond.methodLink own index arraycopyName ∈ wA) (hK : va_K D clA (tyA cI cB cR) s) (hP : va_P D clA (NC cI cB cR ad w) H) (hD : va_D A (NC cI cB cR ad w)) (hS : va_S A H0 H locs) {a : Nat} (ha : a < 14) {sp dp n : Nat} (h4 : sp + n ≤ 6272) (h5 : dp + n ≤ 28672)
    (hframes : 1 ≤ R.frames) (hlocals : (rest.map fun v => v.category).sum + (nativeFrameWords "java/lang/System" "arraycopy" 5 + 11) ≤ R.locals) (hdg : decode cc pc = .ok (.invokestatic index, 3))
    (kk : ∀ (H1 : Heap) (locs1 : List Loc), va_P D clA (NC cI cB cR ad (pR w (va_cpy (sW w a) (sR w) sp dp n))) H1 → va_D A (NC cI cB cR ad (pR w (va_cpy (sW w a) (sR w) sp dp n))) → va_S A H0 H1 locs1 → W p l e R s m args below meth c H1 locs1 cells slots Q (F0 m (pc + 3) ls rest)) : W p l e R s m args below meth c H locs cells slots Q (F0 m pc ls (.int (nI n) :: .int (nI dp) :: .ref (ad 3) :: .int (nI sp) :: .ref (ad (2 * a + 9)) :: rest)) := by
  refine va_copyi hexec hb hml hown (hA_ hts hlink) (hA_ hts ac_native) (hA_ hts ac_static) (hA_ hts in_System) hK hP hD hS (2 * a + 9) 3 0 0 (ty := .int) (NC_w ha) (NC_at (by decide)) rfl rfl rfl (nI_pos (by omega)) (nI_pos (by omega)) (nI_pos (by omega)) (by rw [nI_clamp (by omega), nI_clamp (by omega)]; exact h4) (by rw [nI_clamp (by omega), nI_clamp (by omega)]; exact h5) (fun _ _ => rfl) hframes hlocals hdg (fun H1 locs1 h1 h2 h3 => ?_)
  rw [nI_clamp (by omega), nI_clamp (by omega), nI_clamp (by omega)] at h1 h2
  exact kk H1 locs1 (NC_pR _ ▸ h1) (NC_pR _ ▸ h2) h3
theorem nw_cRW (hexec : p.tables.exec = Jvm.exec) (hb : c.code = cc) (hml : c.maxLocals = ls.size) (hts : ∀ w ∈ c0 :: wA, w.before args s = true) (hown : s.vm.findClass own = some m.cls) (hlink : Cond.methodLink own index arraycopyName ∈ wA) (hK : va_K D clA (tyA cI cB cR) s) (hP : va_P D clA (NC cI cB cR ad w) H) (hD : va_D A (NC cI cB cR ad w)) (hS : va_S A H0 H locs) {i : Nat} (hi : i < 14) {sp dp n : Nat} (h4 : sp + n ≤ 28672) (h5 : dp + n ≤ 6272)
    (hframes : 1 ≤ R.frames) (hlocals : (rest.map fun v => v.category).sum + (nativeFrameWords "java/lang/System" "arraycopy" 5 + 11) ≤ R.locals) (hdg : decode cc pc = .ok (.invokestatic index, 3))
    (kk : ∀ (H1 : Heap) (locs1 : List Loc), va_P D clA (NC cI cB cR ad (pW w i (va_cpy (sR w) (sW w i) sp dp n))) H1 → va_D A (NC cI cB cR ad (pW w i (va_cpy (sR w) (sW w i) sp dp n))) → va_S A H0 H1 locs1 → W p l e R s m args below meth c H1 locs1 cells slots Q (F0 m (pc + 3) ls rest)) : W p l e R s m args below meth c H locs cells slots Q (F0 m pc ls (.int (nI n) :: .int (nI dp) :: .ref (ad (2 * i + 9)) :: .int (nI sp) :: .ref (ad 3) :: rest)) := by
  refine va_copyi hexec hb hml hown (hA_ hts hlink) (hA_ hts ac_native) (hA_ hts ac_static) (hA_ hts in_System) hK hP hD hS 3 (2 * i + 9) 0 0 (ty := .int) (NC_at (by decide)) (NC_w hi) rfl rfl rfl (nI_pos (by omega)) (nI_pos (by omega)) (nI_pos (by omega)) (by rw [nI_clamp (by omega), nI_clamp (by omega)]; exact h4) (by rw [nI_clamp (by omega), nI_clamp (by omega)]; exact h5) (fun _ _ => rfl) hframes hlocals hdg (fun H1 locs1 h1 h2 h3 => ?_)
  rw [nI_clamp (by omega), nI_clamp (by omega), nI_clamp (by omega)] at h1 h2
  exact kk H1 locs1 (NC_pW hi ▸ h1) (NC_pW hi ▸ h2) h3
theorem nw_cRR (hexec : p.tables.exec = Jvm.exec) (hb : c.code = cc) (hml : c.maxLocals = ls.size) (hts : ∀ w ∈ c0 :: wA, w.before args s = true) (hown : s.vm.findClass own = some m.cls) (hlink : Cond.methodLink own index arraycopyName ∈ wA) (hK : va_K D clA (tyA cI cB cR) s) (hP : va_P D clA (NC cI cB cR ad w) H) (hD : va_D A (NC cI cB cR ad w)) (hS : va_S A H0 H locs) {sp dp n : Nat} (h4 : sp + n ≤ 28672) (h5 : dp + n ≤ 28672)
    (hframes : 1 ≤ R.frames) (hlocals : (rest.map fun v => v.category).sum + (nativeFrameWords "java/lang/System" "arraycopy" 5 + 11) ≤ R.locals) (hdg : decode cc pc = .ok (.invokestatic index, 3))
    (kk : ∀ (H1 : Heap) (locs1 : List Loc), va_P D clA (NC cI cB cR ad (pR w (va_cpy (sR w) (sR w) sp dp n))) H1 → va_D A (NC cI cB cR ad (pR w (va_cpy (sR w) (sR w) sp dp n))) → va_S A H0 H1 locs1 → W p l e R s m args below meth c H1 locs1 cells slots Q (F0 m (pc + 3) ls rest)) : W p l e R s m args below meth c H locs cells slots Q (F0 m pc ls (.int (nI n) :: .int (nI dp) :: .ref (ad 3) :: .int (nI sp) :: .ref (ad 3) :: rest)) := by
  refine va_copyi hexec hb hml hown (hA_ hts hlink) (hA_ hts ac_native) (hA_ hts ac_static) (hA_ hts in_System) hK hP hD hS 3 3 0 0 (ty := .int) (NC_at (by decide)) (NC_at (by decide)) rfl rfl rfl (nI_pos (by omega)) (nI_pos (by omega)) (nI_pos (by omega)) (by rw [nI_clamp (by omega), nI_clamp (by omega)]; exact h4) (by rw [nI_clamp (by omega), nI_clamp (by omega)]; exact h5) (fun _ _ => rfl) hframes hlocals hdg (fun H1 locs1 h1 h2 h3 => ?_)
  rw [nI_clamp (by omega), nI_clamp (by omega), nI_clamp (by omega)] at h1 h2
  exact kk H1 locs1 (NC_pR _ ▸ h1) (NC_pR _ ▸ h2) h3
theorem nw_max (hexec : p.tables.exec = Jvm.exec) (hb : c.code = cc) (hml : c.maxLocals = ls.size) (hts : ∀ w ∈ c0 :: wA, w.before args s = true) (hown : s.vm.findClass own = some m.cls) (hlink : Cond.methodLink own index Lib.Math.max.name ∈ wA) (hframes : 1 ≤ R.frames) (hlocals : (rest.map fun v => v.category).sum + 13 ≤ R.locals) (hc : cells ≤ R.cells) (hs : slots ≤ R.slots) {x y v : Int32} (hv : (if x < y then y else x) = v) (hdg : decode cc pc = .ok (.invokestatic index, 3))
    (kk : W p l e R s m args below meth c H locs cells slots Q (F0 m (pc + 3) ls (.int v :: rest))) : W p l e R s m args below meth c H locs cells slots Q (F0 m pc ls (.int y :: .int x :: rest)) := by
  subst hv
  exact va_mmax hexec hb hml hown (hA_ hts hlink) (hA_ hts st_max) (hA_ hts in_Math) (hA_ hts kq_max) hframes hlocals hc hs hdg kk
theorem nw_min (hexec : p.tables.exec = Jvm.exec) (hb : c.code = cc) (hml : c.maxLocals = ls.size) (hts : ∀ w ∈ c0 :: wA, w.before args s = true) (hown : s.vm.findClass own = some m.cls) (hlink : Cond.methodLink own index Lib.Math.min.name ∈ wA) (hframes : 1 ≤ R.frames) (hlocals : (rest.map fun v => v.category).sum + 13 ≤ R.locals) (hc : cells ≤ R.cells) (hs : slots ≤ R.slots) {x y v : Int32} (hv : (if y < x then y else x) = v) (hdg : decode cc pc = .ok (.invokestatic index, 3))
    (kk : W p l e R s m args below meth c H locs cells slots Q (F0 m (pc + 3) ls (.int v :: rest))) : W p l e R s m args below meth c H locs cells slots Q (F0 m pc ls (.int y :: .int x :: rest)) := by
  subst hv
  exact va_mmin hexec hb hml hown (hA_ hts hlink) (hA_ hts st_min) (hA_ hts in_Math) (hA_ hts kq_min) hframes hlocals hc hs hdg kk
end CPY
theorem nI_max {a b : Nat} (ha : a < 2 ^ 31) (hb : b < 2 ^ 31) : (if nI a < nI b then nI b else nI a) = nI (max a b) := by
  by_cases h : a < b
  · rw [if_pos (nI_lt h hb), Nat.max_eq_right (by omega)]
  · rw [if_neg (nI_nlt (by omega) ha), Nat.max_eq_left (by omega)]
theorem nI_min {a b : Nat} (ha : a < 2 ^ 31) (hb : b < 2 ^ 31) : (if nI b < nI a then nI b else nI a) = nI (min a b) := by
  by_cases h : b < a
  · rw [if_pos (nI_lt h ha), Nat.min_eq_right (by omega)]
  · rw [if_neg (nI_nlt (by omega) hb), Nat.min_eq_left (by omega)]
/-- a count that goes down to -1 -/
def dn : Nat → Int32
  | 0 => -1
  | k + 1 => nI k
theorem dn_sub : ∀ k : Nat, nI k - nI 1 = dn k
  | 0 => by decide
  | k + 1 => pk_sub (by omega)
theorem dn_dec : ∀ k : Nat, nI k + Int32.ofInt (-1) = dn k
  | 0 => by decide
  | k + 1 => pk_m1 k
theorem dn_0 : dn 0 < 0 := by decide
theorem dn_lex {f g : Nat → Int32} {L k : Nat} (hk : k < L) (he : ∀ j, k < j → j < L → f j = g j) (h : wN (f k) < wN (g k)) : vN f 0 L < vN g 0 L := by
  obtain ⟨d, rfl⟩ : ∃ d, L = k + 1 + d := ⟨L - (k + 1), by omega⟩
  rw [vN_add f 0 (k + 1) d, vN_add g 0 (k + 1) d, vN_suc0 f k, vN_suc0 g k, vN_congr (f := f) (g := g) (a := 0 + (k + 1)) (b := 0 + (k + 1)) (n := d) (fun j hj => he _ (by omega) (by omega))]
  have h1 := vN_lt f 0 k
  have h2 : (wN (f k) + 1) * 4294967296 ^ k ≤ wN (g k) * 4294967296 ^ k := Nat.mul_le_mul_right _ h
  rw [Nat.add_mul, Nat.one_mul] at h2
  omega
end
section
/-! COMPARING; a number laid as another -/
def cmpN (v u : Nat) : Int32 := if v < u then -1 else if v = u then 0 else nI 1
theorem cmpN_eq (v : Nat) : cmpN v v = 0 := by
  unfold cmpN
  rw [if_neg (Nat.lt_irrefl v), if_pos rfl]
theorem cmpN_lt {v u : Nat} (h : v < u) : cmpN v u = -1 := if_pos h
theorem cmpN_gt {v u : Nat} (h : u < v) : cmpN v u = nI 1 := by
  unfold cmpN
  rw [if_neg (by omega), if_neg (by omega)]
theorem NV_as {w w1 : St} {i a v : Nat} (h : NV w a v) (hl : sL w1 i = sL w a) (hf : ∀ j, j < sL w a → sW w1 i j = sW w a j) : NV w1 i v := by
  refine ⟨by rw [hl]; exact h.1, ?_, ?_⟩
  · rw [hl]
    rcases h.2.1 with q | q
    · exact Or.inl q
    · rcases Nat.eq_zero_or_pos (sL w a) with z | z
      · exact Or.inl z
      · right
        rw [hf _ (by omega)]
        exact q
  · rw [hl, ← h.2.2]
    exact vN_congr (fun j hj => by rw [Nat.zero_add]; exact hf j hj)
end
section
/-! NUMBERS: the contracts of Natural, 3 (rows laid by wip/whole/gen/c_na3.py) -/
set_option maxHeartbeats 4000000 in
set_option maxRecDepth 100000 in
/-- putSame(a): this becomes a -/
theorem c_Na_putSame (l : Launch) {D : va_G} {cI cB cR : ClassId} {ad : Nat → Nat} (w : St) (sz : Nat) {i a v : Nat} (hi : i < 14) (ha : a < 14) (hv : NV w a v) : Met l y_Na_putSame (q_Na_putSame :: wA) { frames := 1, cells := 0, slots := 0, locals := 60 } (va_Pc [.ref (ad (2 * i + 8)), .ref (ad (2 * a + 8))] (PW D cI cB cR ad w sz)) (va_Qv (fun w1 : St => eqN w w1 i ∧ NV w1 i v) (BW D cI cB cR ad) (AA ad sz)) 0 0 (AA ad sz) := by
  refine Met.ofW (cc := b_Na_putSame) (maxL := 2) (ret := none) (by decide) rfl ?_
  intro p e s m args below meth c s₁ B hml hv
  obtain ⟨rfl, hsz, hP, hD0, hKW⟩ := hv
  have hx := B.exec
  have hb := B.bytes
  have hr := B.returns
  have hts := atoms_spec (ws := q_Na_putSame :: wA) B.pre
  have hown : s.vm.findClass R_Na = some m.cls := findClass_of_methodNamed B.named
  have hlocks := B.notSynchronized
  subst hsz
  have hD := NC_AA (sz := s.heap.size) hD0
  have hS : va_S (AA ad s.heap.size) s.heap s.heap [] := va_S.rf
  have hl := lv_entry ([.ref (ad (2 * i + 8)), .ref (ad (2 * a + 8))]) (n := 2) (Nat.le_of_ble_eq_true rfl)
  rw [lg_entry_eq]
  generalize (lg_sl ([.ref (ad (2 * i + 8)), .ref (ad (2 * a + 8))]) ++ List.replicate (2 - (lg_sl ([.ref (ad (2 * i + 8)), .ref (ad (2 * a + 8))])).length) Slot.unset).toArray = ls at hl ⊢
  have hl : lv_has ls 2 [(0, .ref (ad (2 * i + 8))), (1, .ref (ad (2 * a + 8)))] := hl
  have hlen := hv.len
  refine lv_aload_n hx hb d_Na_putSame_0 rfl (lv_at hl 1 rfl) ?_
  refine nw_gW hx hb hts hown hKW.1 hP (i := a) (by omega) lf_Na_9 d_Na_putSame_1 ?_
  refine lv_iconst (v := nI (0)) hx hb d_Na_putSame_4 (by decide) ?_
  refine lv_aload_n hx hb d_Na_putSame_5 rfl (lv_at hl 0 rfl) ?_
  refine nw_gW hx hb hts hown hKW.1 hP (i := i) (by omega) lf_Na_9 d_Na_putSame_6 ?_
  refine lv_iconst (v := nI (0)) hx hb d_Na_putSame_9 (by decide) ?_
  refine lv_aload_n hx hb d_Na_putSame_10 rfl (lv_at hl 1 rfl) ?_
  refine nw_gL hx hb hts hown hKW.1 hP (i := a) (by omega) (n := sL (w) a) rfl lf_Na_15 d_Na_putSame_11 ?_
  refine nw_cWW hx hb (hml.trans hl.1.symm) hts hown lm_Na_27 hKW.1 hP hD hS (a := a) ha (i := i) hi (sp := 0) (dp := 0) (n := sL w a) (by omega) (by omega) (Nat.le_of_ble_eq_true rfl) (by decide) d_Na_putSame_14 (fun H locs hP hD hS => ?_)
  refine lv_aload_n hx hb d_Na_putSame_17 rfl (lv_at hl 0 rfl) ?_
  refine lv_aload_n hx hb d_Na_putSame_18 rfl (lv_at hl 1 rfl) ?_
  refine nw_gL hx hb hts hown hKW.1 hP (i := a) (by omega) (n := sL w a) rfl lf_Na_15 d_Na_putSame_19 ?_
  refine nw_pL hx hb hts hown hKW.1 hP hD hS (i := i) (by omega) lf_Na_15 d_Na_putSame_22 (fun H locs hP hD hS => ?_)
  have hf : ∀ j, j < sL w a → va_cpy (sW w a) (sW w i) 0 0 (sL w a) j = sW w a j := fun j hj => by
    rw [pk_cpy_in (Nat.zero_le _) (by omega)]
    simp
  exact W.vret hx hb hr (fun t ht hW => ⟨⟨pL (pW w i (va_cpy (sW w a) (sW w i) 0 0 (sL w a))) i (sL w a), rfl, ⟨eqN_tr w i _ _, NV_as hv (sL_pL _ _ _) (fun j hj => by rw [show sW (pL (pW w i (va_cpy (sW w a) (sW w i) 0 0 (sL w a))) i (sL w a)) i = _ from sW_pW w i _]; exact hf j hj)⟩, BW_of ht hP⟩, hS.F ht⟩) hS.2.2 d_Na_putSame_25
set_option maxHeartbeats 4000000 in
set_option maxRecDepth 100000 in
/-- order(b) -/
theorem c_Na_order (l : Launch) {D : va_G} {cI cB cR : ClassId} {ad : Nat → Nat} (w : St) (sz : Nat) {i b v u : Nat} (hi : i < 14) (hb14 : b < 14) (hv : NV w i v) (hu : NV w b u) : Met l y_Na_order (q_Na_order :: wA) { frames := 0, cells := 0, slots := 0, locals := 0 } (va_Pc [.ref (ad (2 * i + 8)), .ref (ad (2 * b + 8))] (PW D cI cB cR ad w sz)) (va_Qi (fun (r : Int32) (w1 : St) => r = cmpN v u ∧ w1 = w) (BW D cI cB cR ad) (AA ad sz)) 0 0 (AA ad sz) := by
  refine Met.ofW (cc := b_Na_order) (maxL := 3) (ret := (some (.int))) (by decide) rfl ?_
  intro p e s m args below meth c s₁ B hml hv
  obtain ⟨rfl, hsz, hP, hD0, hKW⟩ := hv
  have hx := B.exec
  have hb := B.bytes
  have hr := B.returns
  have hts := atoms_spec (ws := q_Na_order :: wA) B.pre
  have hown : s.vm.findClass R_Na = some m.cls := findClass_of_methodNamed B.named
  have hlocks := B.notSynchronized
  subst hsz
  have hD := NC_AA (sz := s.heap.size) hD0
  have hS : va_S (AA ad s.heap.size) s.heap s.heap [] := va_S.rf
  have hl := lv_entry ([.ref (ad (2 * i + 8)), .ref (ad (2 * b + 8))]) (n := 3) (Nat.le_of_ble_eq_true rfl)
  rw [lg_entry_eq]
  generalize (lg_sl ([.ref (ad (2 * i + 8)), .ref (ad (2 * b + 8))]) ++ List.replicate (3 - (lg_sl ([.ref (ad (2 * i + 8)), .ref (ad (2 * b + 8))])).length) Slot.unset).toArray = ls at hl ⊢
  have hl : lv_has ls 3 [(0, .ref (ad (2 * i + 8))), (1, .ref (ad (2 * b + 8)))] := hl
  have hlen := hv.len
  have hlen2 := hu.len
  refine lv_aload_n hx hb d_Na_order_0 rfl (lv_at hl 0 rfl) ?_
  refine nw_gL hx hb hts hown hKW.1 hP (i := i) (by omega) (n := sL (w) i) rfl lf_Na_15 d_Na_order_1 ?_
  refine lv_aload_n hx hb d_Na_order_4 rfl (lv_at hl 1 rfl) ?_
  refine nw_gL hx hb hts hown hKW.1 hP (i := b) (by omega) (n := sL (w) b) rfl lf_Na_15 d_Na_order_5 ?_
  refine lv_icmp_eq (tgt := 28) hx hb d_Na_order_8 (by decide) (fun c8 => ?_) (fun c8 => ?_)
  · skip
    have c8 : sL (w) i = sL (w) b := (nI_eq (by omega) (by omega)).mp c8
    refine lv_aload_n hx hb d_Na_order_28 rfl (lv_at hl 0 rfl) ?_
    refine nw_gL hx hb hts hown hKW.1 hP (i := i) (by omega) (n := sL (w) i) rfl lf_Na_15 d_Na_order_29 ?_
    refine lv_iconst (v := nI (1)) hx hb d_Na_order_32 (by decide) ?_
    refine nw_isub (v := dn (sL w i)) hx hb d_Na_order_33 (dn_sub _) ?_
    refine lv_istore_n (lv' := [(2, .int (dn (sL w i))), (0, .ref (ad (2 * i + 8))), (1, .ref (ad (2 * b + 8)))]) hx hb d_Na_order_34 rfl hl (by decide) rfl (fun ls hl => ?_)
    have loop : ∀ (k : Nat), k ≤ sL w i → (∀ j, k ≤ j → j < sL w i → sW w i j = sW w b j) → ∀ ls : Array Slot, lv_has ls 3 [(2, .int (dn k)), (0, .ref (ad (2 * i + 8))), (1, .ref (ad (2 * b + 8)))] → W p l e (headSpec (q_Na_order :: wA) { frames := 0, cells := 0, slots := 0, locals := 0 }).room s m ([.ref (ad (2 * i + 8)), .ref (ad (2 * b + 8))] : List Value).toArray below meth c s.heap [] 0 0 (MQ below (va_Qi (fun (r : Int32) (w1 : St) => r = cmpN v u ∧ w1 = w) (BW D cI cB cR ad) (AA ad s.heap.size)) ([.ref (ad (2 * i + 8)), .ref (ad (2 * b + 8))] : List Value).toArray s 0 0 (AA ad s.heap.size)) (F0 m 35 ls []) := by
      intro k
      induction k with
      | zero =>
        intro _ he ls hl
        refine lv_iload_n hx hb d_Na_order_35 rfl (lv_at hl 0 rfl) ?_
        refine lv_if_lt (tgt := 92) hx hb d_Na_order_36 (by decide) (fun c36 => ?_) (fun c36 => ?_)
        · skip
          refine lv_iconst (v := nI (0)) hx hb d_Na_order_92 (by decide) ?_
          have huv : v = u := by rw [← hv.2.2, ← hu.2.2, ← c8]; exact vN_congr (fun j hj => by rw [Nat.zero_add]; exact he j (Nat.zero_le _) hj)
          exact W.iret (v := nI (0)) hx hb hr (fun t ht hW => ⟨⟨_, w, rfl, ⟨by rw [huv, cmpN_eq]; exact nI_0, rfl⟩, BW_of ht hP⟩, hS.F ht⟩) hS.2.2 d_Na_order_93
        · exact absurd dn_0 c36
      | succ k ih =>
        intro hk he ls hl
        refine lv_iload_n hx hb d_Na_order_35 rfl (lv_at hl 0 rfl) ?_
        refine lv_if_lt (tgt := 92) hx hb d_Na_order_36 (by decide) (fun c36 => ?_) (fun c36 => ?_)
        · exact absurd c36 (nI_pos (by omega))
        · skip
          refine lv_aload_n hx hb d_Na_order_39 rfl (lv_at hl 1 rfl) ?_
          refine nw_gW hx hb hts hown hKW.1 hP (i := i) (by omega) lf_Na_9 d_Na_order_40 ?_
          refine lv_iload_n hx hb d_Na_order_43 rfl (lv_at hl 0 rfl) ?_
          refine nw_lW hx hb hKW.1 hP (i := i) (by omega) (j := k) (by omega) (x := sW (w) i (k)) rfl d_Na_order_44 ?_
          refine lv_aload_n hx hb d_Na_order_45 rfl (lv_at hl 2 rfl) ?_
          refine nw_gW hx hb hts hown hKW.1 hP (i := b) (by omega) lf_Na_9 d_Na_order_46 ?_
          refine lv_iload_n hx hb d_Na_order_49 rfl (lv_at hl 0 rfl) ?_
          refine nw_lW hx hb hKW.1 hP (i := b) (by omega) (j := k) (by omega) (x := sW (w) b (k)) rfl d_Na_order_50 ?_
          refine lv_icmp_eq (tgt := 86) hx hb d_Na_order_51 (by decide) (fun c51 => ?_) (fun c51 => ?_)
          · skip
            refine lv_iinc (v := dn k) (lv' := [(2, .int (dn k)), (0, .ref (ad (2 * i + 8))), (1, .ref (ad (2 * b + 8)))]) hx hb d_Na_order_86 hl (k := 0) rfl (dn_dec k) (by decide) rfl (fun ls hl => ?_)
            refine lv_goto (tgt := 35) hx hb d_Na_order_89 (by decide) ?_
            exact ih (by omega) (fun j h1 h2 => by rcases Nat.lt_or_ge k j with q | q; exact he j (by omega) h2; rw [show j = k by omega]; exact c51) ls (lv_sub hl [0, 1, 2] rfl)
          · skip
            refine lv_aload_n hx hb d_Na_order_54 rfl (lv_at hl 1 rfl) ?_
            refine nw_gW hx hb hts hown hKW.1 hP (i := i) (by omega) lf_Na_9 d_Na_order_55 ?_
            refine lv_iload_n hx hb d_Na_order_58 rfl (lv_at hl 0 rfl) ?_
            refine nw_lW hx hb hKW.1 hP (i := i) (by omega) (j := k) (by omega) (x := sW (w) i (k)) rfl d_Na_order_59 ?_
            refine lv_i2l (v := (sW (w) i (k)).toInt64) hx hb d_Na_order_60 rfl ?_
            refine lv_ldc2 (v := 4294967295) hx hb hown (hA_ hts ll_Na_33) d_Na_order_61 ?_
            refine nw_land (v := lN (wN ((sW (w) i (k))))) hx hb d_Na_order_64 (lw_low _) ?_
            refine lv_aload_n hx hb d_Na_order_65 rfl (lv_at hl 2 rfl) ?_
            refine nw_gW hx hb hts hown hKW.1 hP (i := b) (by omega) lf_Na_9 d_Na_order_66 ?_
            refine lv_iload_n hx hb d_Na_order_69 rfl (lv_at hl 0 rfl) ?_
            refine nw_lW hx hb hKW.1 hP (i := b) (by omega) (j := k) (by omega) (x := sW (w) b (k)) rfl d_Na_order_70 ?_
            refine lv_i2l (v := (sW (w) b (k)).toInt64) hx hb d_Na_order_71 rfl ?_
            refine lv_ldc2 (v := 4294967295) hx hb hown (hA_ hts ll_Na_33) d_Na_order_72 ?_
            refine nw_land (v := lN (wN ((sW (w) b (k))))) hx hb d_Na_order_75 (lw_low _) ?_
            refine W.lcmp hx hb d_Na_order_76 ?_
            refine lv_if_ge (tgt := 84) hx hb d_Na_order_77 (by decide) (fun c77 => ?_) (fun c77 => ?_)
            · skip
              have h9 := (pk_lLE (Nat.lt_trans (wN_lt _) (by decide)) (Nat.lt_trans (wN_lt _) (by decide))).mp ((lg_cmp_ge _ _).mp c77)
              have h8 : wN (sW w b k) < wN (sW w i k) := by rcases Nat.lt_or_eq_of_le h9 with q | q; exact q; exact absurd (wN_inj q.symm) c51
              have h7 : u < v := by rw [← hv.2.2, ← hu.2.2, ← c8]; exact dn_lex (by omega) (fun j h1 h2 => (he j (by omega) h2).symm) h8
              refine lv_iconst (v := nI (1)) hx hb d_Na_order_84 (by decide) ?_
              exact W.iret (v := nI (1)) hx hb hr (fun t ht hW => ⟨⟨_, w, rfl, ⟨(cmpN_gt h7).symm, rfl⟩, BW_of ht hP⟩, hS.F ht⟩) hS.2.2 d_Na_order_85
            · skip
              have h9 : ¬ wN (sW w b k) ≤ wN (sW w i k) := fun h => c77 ((lg_cmp_ge _ _).mpr ((pk_lLE (Nat.lt_trans (wN_lt _) (by decide)) (Nat.lt_trans (wN_lt _) (by decide))).mpr h))
              have h7 : v < u := by rw [← hv.2.2, ← hu.2.2, ← c8]; exact dn_lex (by omega) (fun j h1 h2 => he j (by omega) h2) (Nat.not_le.mp h9)
              refine lv_iconst (v := -1) hx hb d_Na_order_80 (by decide) ?_
              refine lv_goto (tgt := 85) hx hb d_Na_order_81 (by decide) ?_
              exact W.iret (v := -1) hx hb hr (fun t ht hW => ⟨⟨_, w, rfl, ⟨(cmpN_lt h7).symm, rfl⟩, BW_of ht hP⟩, hS.F ht⟩) hS.2.2 d_Na_order_85
    exact loop (sL w i) (Nat.le_refl _) (fun j h1 h2 => absurd h2 (by omega)) ls hl
  · skip
    have c8 : ¬ (sL (w) i = sL (w) b) := fun h => c8 ((nI_eq (by omega) (by omega)).mpr h)
    refine lv_aload_n hx hb d_Na_order_11 rfl (lv_at hl 0 rfl) ?_
    refine nw_gL hx hb hts hown hKW.1 hP (i := i) (by omega) (n := sL (w) i) rfl lf_Na_15 d_Na_order_12 ?_
    refine lv_aload_n hx hb d_Na_order_15 rfl (lv_at hl 1 rfl) ?_
    refine nw_gL hx hb hts hown hKW.1 hP (i := b) (by omega) (n := sL (w) b) rfl lf_Na_15 d_Na_order_16 ?_
    refine lv_icmp_ge (tgt := 26) hx hb d_Na_order_19 (by decide) (fun c19 => ?_) (fun c19 => ?_)
    · skip
      have c19 : sL (w) b ≤ sL (w) i := (nI_leI (by omega) (by omega)).mp c19
      refine lv_iconst (v := nI (1)) hx hb d_Na_order_26 (by decide) ?_
      have h7 : u < v := Nat.lt_of_lt_of_le hu.lt (Nat.le_trans (Nat.pow_le_pow_right (by decide) (by omega)) (hv.ge (by omega)))
      exact W.iret (v := nI (1)) hx hb hr (fun t ht hW => ⟨⟨_, w, rfl, ⟨(cmpN_gt h7).symm, rfl⟩, BW_of ht hP⟩, hS.F ht⟩) hS.2.2 d_Na_order_27
    · skip
      have c19 : ¬ (sL (w) b ≤ sL (w) i) := fun h => c19 ((nI_leI (by omega) (by omega)).mpr h)
      refine lv_iconst (v := -1) hx hb d_Na_order_22 (by decide) ?_
      refine lv_goto (tgt := 27) hx hb d_Na_order_23 (by decide) ?_
      have h7 : v < u := Nat.lt_of_lt_of_le hv.lt (Nat.le_trans (Nat.pow_le_pow_right (by decide) (by omega)) (hu.ge (by omega)))
      exact W.iret (v := -1) hx hb hr (fun t ht hW => ⟨⟨_, w, rfl, ⟨(cmpN_lt h7).symm, rfl⟩, BW_of ht hP⟩, hS.F ht⟩) hS.2.2 d_Na_order_27
end
section
/-! READING a number while another, or the same, is being written from below -/
theorem rdW {w : St} {i p j : Nat} {f : Nat → Int32} {j0 : Nat} (hf : ∀ q, j0 ≤ q → f q = sW w i q) (hj : j0 ≤ j) : sW (pW w i f) p j = sW w p j := by
  by_cases h : p = i
  · rw [h, sW_pW]
    exact hf j hj
  · rw [sW_pWn _ _ h]
end
section
/-! NUMBERS: the contracts of Natural, 4: sums and differences (rows laid by wip/whole/gen/c_na4.py) -/
set_option maxHeartbeats 4000000 in
set_option maxRecDepth 100000 in
/-- putSum(a, b) -/
theorem c_Na_putSum (l : Launch) {D : va_G} {cI cB cR : ClassId} {ad : Nat → Nat} (w : St) (sz : Nat) {i a b v u : Nat} (hi : i < 14) (ha : a < 14) (hb14 : b < 14) (hv : NV w a v) (hu : NV w b u) (hla : sL w a ≤ 6271) (hlb : sL w b ≤ 6271) : Met l y_Na_putSum (q_Na_putSum :: wA) { frames := 1, cells := 0, slots := 0, locals := 24 } (va_Pc [.ref (ad (2 * i + 8)), .ref (ad (2 * a + 8)), .ref (ad (2 * b + 8))] (PW D cI cB cR ad w sz)) (va_Qv (fun w1 : St => eqN w w1 i ∧ NV w1 i (v + u)) (BW D cI cB cR ad) (AA ad sz)) 0 0 (AA ad sz) := by
  refine Met.ofW (cc := b_Na_putSum) (maxL := 10) (ret := none) (by decide) rfl ?_
  intro p e s m args below meth c s₁ B hml hv
  obtain ⟨rfl, hsz, hP, hD0, hKW⟩ := hv
  have hx := B.exec
  have hb := B.bytes
  have hr := B.returns
  have hts := atoms_spec (ws := q_Na_putSum :: wA) B.pre
  have hown : s.vm.findClass R_Na = some m.cls := findClass_of_methodNamed B.named
  have hlocks := B.notSynchronized
  subst hsz
  have hD := NC_AA (sz := s.heap.size) hD0
  have hS : va_S (AA ad s.heap.size) s.heap s.heap [] := va_S.rf
  have hl := lv_entry ([.ref (ad (2 * i + 8)), .ref (ad (2 * a + 8)), .ref (ad (2 * b + 8))]) (n := 10) (Nat.le_of_ble_eq_true rfl)
  rw [lg_entry_eq]
  generalize (lg_sl ([.ref (ad (2 * i + 8)), .ref (ad (2 * a + 8)), .ref (ad (2 * b + 8))]) ++ List.replicate (10 - (lg_sl ([.ref (ad (2 * i + 8)), .ref (ad (2 * a + 8)), .ref (ad (2 * b + 8))])).length) Slot.unset).toArray = ls at hl ⊢
  have hl : lv_has ls 10 [(0, .ref (ad (2 * i + 8))), (1, .ref (ad (2 * a + 8))), (2, .ref (ad (2 * b + 8)))] := hl
  refine lv_aload_n hx hb d_Na_putSum_0 rfl (lv_at hl 1 rfl) ?_
  refine nw_gL hx hb hts hown hKW.1 hP (i := a) (by omega) (n := sL (w) a) rfl lf_Na_15 d_Na_putSum_1 ?_
  refine lv_aload_n hx hb d_Na_putSum_4 rfl (lv_at hl 2 rfl) ?_
  refine nw_gL hx hb hts hown hKW.1 hP (i := b) (by omega) (n := sL (w) b) rfl lf_Na_15 d_Na_putSum_5 ?_
  refine lv_icmp_lt (tgt := 15) hx hb d_Na_putSum_8 (by decide) (fun c8 => ?_) (fun c8 => ?_)
  · skip
    have c8 : sL (w) a < sL (w) b := (nI_ltI (by omega) (by omega)).mp c8
    refine lv_aload_n hx hb d_Na_putSum_15 rfl (lv_at hl 2 rfl) ?_
    refine lv_astore_n (lv' := [(3, .ref (ad (2 * b + 8))), (0, .ref (ad (2 * i + 8))), (1, .ref (ad (2 * a + 8))), (2, .ref (ad (2 * b + 8)))]) hx hb d_Na_putSum_16 rfl hl (by decide) rfl (fun ls hl => ?_)
    refine lv_aload_n hx hb d_Na_putSum_17 rfl (lv_at hl 2 rfl) ?_
    refine nw_gL hx hb hts hown hKW.1 hP (i := a) (by omega) (n := sL (w) a) rfl lf_Na_15 d_Na_putSum_18 ?_
    refine lv_aload_n hx hb d_Na_putSum_21 rfl (lv_at hl 3 rfl) ?_
    refine nw_gL hx hb hts hown hKW.1 hP (i := b) (by omega) (n := sL (w) b) rfl lf_Na_15 d_Na_putSum_22 ?_
    refine lv_icmp_lt (tgt := 32) hx hb d_Na_putSum_25 (by decide) (fun c25 => ?_) (fun c25 => ?_)
    · skip
      have c25 : sL (w) a < sL (w) b := (nI_ltI (by omega) (by omega)).mp c25
      refine lv_aload_n hx hb d_Na_putSum_32 rfl (lv_at hl 2 rfl) ?_
      refine lv_astore (lv' := [(4, .ref (ad (2 * a + 8))), (3, .ref (ad (2 * b + 8))), (0, .ref (ad (2 * i + 8))), (1, .ref (ad (2 * a + 8))), (2, .ref (ad (2 * b + 8)))]) hx hb d_Na_putSum_33 hl (by decide) rfl (fun ls hl => ?_)
      refine lv_aload_n hx hb d_Na_putSum_35 rfl (lv_at hl 1 rfl) ?_
      refine nw_gL hx hb hts hown hKW.1 hP (i := b) (by omega) (n := sL (w) b) rfl lf_Na_15 d_Na_putSum_36 ?_
      refine lv_istore (lv' := [(5, .int (nI (sL (w) b))), (4, .ref (ad (2 * a + 8))), (3, .ref (ad (2 * b + 8))), (0, .ref (ad (2 * i + 8))), (1, .ref (ad (2 * a + 8))), (2, .ref (ad (2 * b + 8)))]) hx hb d_Na_putSum_39 hl (by decide) rfl (fun ls hl => ?_)
      refine lv_aload hx hb d_Na_putSum_41 (lv_at hl 1 rfl) ?_
      refine nw_gL hx hb hts hown hKW.1 hP (i := a) (by omega) (n := sL (w) a) rfl lf_Na_15 d_Na_putSum_43 ?_
      refine lv_istore (lv' := [(6, .int (nI (sL (w) a))), (5, .int (nI (sL (w) b))), (4, .ref (ad (2 * a + 8))), (3, .ref (ad (2 * b + 8))), (0, .ref (ad (2 * i + 8))), (1, .ref (ad (2 * a + 8))), (2, .ref (ad (2 * b + 8)))]) hx hb d_Na_putSum_46 hl (by decide) rfl (fun ls hl => ?_)
      refine lv_lconst (v := lN (0)) hx hb d_Na_putSum_48 (by decide) ?_
      refine lv_lstore (lv' := [(7, .long (lN (0))), (6, .int (nI (sL (w) a))), (5, .int (nI (sL (w) b))), (4, .ref (ad (2 * a + 8))), (3, .ref (ad (2 * b + 8))), (0, .ref (ad (2 * i + 8))), (1, .ref (ad (2 * a + 8))), (2, .ref (ad (2 * b + 8)))]) hx hb d_Na_putSum_49 hl (by decide) rfl (fun ls hl => ?_)
      refine lv_iconst (v := nI (0)) hx hb d_Na_putSum_51 (by decide) ?_
      refine lv_istore (lv' := [(9, .int (nI (0))), (7, .long (lN (0))), (6, .int (nI (sL (w) a))), (5, .int (nI (sL (w) b))), (4, .ref (ad (2 * a + 8))), (3, .ref (ad (2 * b + 8))), (0, .ref (ad (2 * i + 8))), (1, .ref (ad (2 * a + 8))), (2, .ref (ad (2 * b + 8)))]) hx hb d_Na_putSum_52 hl (by decide) rfl (fun ls hl => ?_)
      have loop : ∀ (n j : Nat) (f : Nat → Int32) (cy : Nat) (H : Heap) (locs : List Loc) (ls : Array Slot), j + n = sL w b → vN f 0 j + cy * 4294967296 ^ j = vN (sW w b) 0 j + vM (sW w a) (sL w a) j → (∀ q, j ≤ q → f q = sW w i q) → cy ≤ 1 → va_P D clA (NC cI cB cR ad (pW w i f)) H → va_D (AA ad s.heap.size) (NC cI cB cR ad (pW w i f)) → va_S (AA ad s.heap.size) s.heap H locs → lv_has ls 10 [(9, .int (nI (j))), (7, .long (lN (cy))), (6, .int (nI (sL w a))), (5, .int (nI (sL w b))), (4, .ref (ad (2 * a + 8))), (3, .ref (ad (2 * b + 8))), (0, .ref (ad (2 * i + 8))), (1, .ref (ad (2 * a + 8))), (2, .ref (ad (2 * b + 8)))] → W p l e (headSpec (q_Na_putSum :: wA) { frames := 1, cells := 0, slots := 0, locals := 24 }).room s m ([.ref (ad (2 * i + 8)), .ref (ad (2 * a + 8)), .ref (ad (2 * b + 8))] : List Value).toArray below meth c H locs 0 0 (MQ below (va_Qv (fun w1 : St => eqN w w1 i ∧ NV w1 i (v + u)) (BW D cI cB cR ad) (AA ad s.heap.size)) ([.ref (ad (2 * i + 8)), .ref (ad (2 * a + 8)), .ref (ad (2 * b + 8))] : List Value).toArray s 0 0 (AA ad s.heap.size)) (F0 m 54 ls []) := by
        intro n
        induction n with
        | zero =>
          intro j f cy H locs ls hj hinv hf hc hP hD hS hl
          refine lv_iload hx hb d_Na_putSum_54 (lv_at hl 0 rfl) ?_
          refine lv_iload hx hb d_Na_putSum_56 (lv_at hl 3 rfl) ?_
          refine lv_icmp_ge (tgt := 126) hx hb d_Na_putSum_58 (by decide) (fun c58 => ?_) (fun c58 => ?_)
          · skip
            have c58 : sL w b ≤ j := (nI_leI (by omega) (by omega)).mp c58
            have ej : j = sL w b := by omega
            subst ej
            refine lv_aload_n hx hb d_Na_putSum_126 rfl (lv_at hl 6 rfl) ?_
            refine nw_gW hx hb hts hown hKW.1 hP (i := i) (by omega) lf_Na_9 d_Na_putSum_127 ?_
            refine lv_iload hx hb d_Na_putSum_130 (lv_at hl 3 rfl) ?_
            refine lv_lload hx hb d_Na_putSum_132 (lv_at hl 1 rfl) ?_
            refine lv_l2i (v := nI (cy)) hx hb d_Na_putSum_134 (lN_i _) ?_
            refine nw_sW hx hb hKW.1 hP hD hS (i := i) (by omega) (j := sL w b) (by omega) d_Na_putSum_135 (fun H locs hP hD hS => ?_)
            refine lv_aload_n hx hb d_Na_putSum_136 rfl (lv_at hl 6 rfl) ?_
            refine lv_iload hx hb d_Na_putSum_137 (lv_at hl 3 rfl) ?_
            refine lv_iconst (v := nI (1)) hx hb d_Na_putSum_139 (by decide) ?_
            refine nw_iadd (v := nI (sL w b + 1)) hx hb d_Na_putSum_140 (nI_add _ _) ?_
            refine wV_v (As := [.int (nI (sL w b + 1))]) (rest := []) (n := 1) ⟨hx, hb, hml, hown, hts⟩ (c_Na_trim l (pW (pW w i f) i (upd (sW (pW w i f) i) (sL w b) (nI (cy)))) _ (i := i) (n := sL w b + 1) hi (by omega)) (cwV0 1 hts lm_Na_23 im_Na_trim se_Na_trim in_Na kq_Na_trim rfl rfl rfl (by decide +kernel) ⟨Nat.le_of_ble_eq_true rfl, Nat.le_of_ble_eq_true rfl⟩) (recvN hKW.1 hP (i := i) (by omega)) hKW hP hD hS rfl hl.1 rfl (Nat.le_of_ble_eq_true rfl) d_Na_putSum_141 ⟨Nat.zero_le _, Nat.zero_le _⟩ (fun w1 H locs hp hP hD hS => ?_)
            simp only [sW_pW, pW_pW] at hp
            have e2 : vN (upd f (sL w b) (nI cy)) 0 (sL w b + 1) = v + u := by
              rw [vN_suc0, pk_us, vN_out (Or.inr (by omega)), wN_nI, Nat.mod_eq_of_lt (by omega), hinv, vM_all (by omega), hu.2.2, hv.2.2]; omega
            exact W.vret hx hb hr (fun t ht hW => ⟨⟨w1, rfl, ⟨by rw [hp]; exact eqN_tr w i _ _, by rw [hp]; have := NV_tr (w := w) (i := i) (n := sL w b + 1) (f := upd f (sL w b) (nI cy)) (by omega); rw [e2] at this; exact this⟩, BW_of ht hP⟩, hS.F ht⟩) hS.2.2 d_Na_putSum_144
          · exact absurd (nI_le (by omega) (by omega)) c58
        | succ n ih =>
          intro j f cy H locs ls hj hinv hf hc hP hD hS hl
          refine lv_iload hx hb d_Na_putSum_54 (lv_at hl 0 rfl) ?_
          refine lv_iload hx hb d_Na_putSum_56 (lv_at hl 3 rfl) ?_
          refine lv_icmp_ge (tgt := 126) hx hb d_Na_putSum_58 (by decide) (fun c58 => ?_) (fun c58 => ?_)
          · exact absurd c58 (nI_ge (by omega) (by omega))
          · skip
            refine lv_lload hx hb d_Na_putSum_61 (lv_at hl 1 rfl) ?_
            refine lv_aload_n hx hb d_Na_putSum_63 rfl (lv_at hl 5 rfl) ?_
            refine nw_gW hx hb hts hown hKW.1 hP (i := b) (by omega) lf_Na_9 d_Na_putSum_64 ?_
            refine lv_iload hx hb d_Na_putSum_67 (lv_at hl 0 rfl) ?_
            refine nw_lW hx hb hKW.1 hP (i := b) (by omega) (j := j) (by omega) (x := sW w b j) (rdW hf (Nat.le_refl j)) d_Na_putSum_69 ?_
            refine lv_i2l (v := (sW w b j).toInt64) hx hb d_Na_putSum_70 rfl ?_
            refine lv_ldc2 (v := 4294967295) hx hb hown (hA_ hts ll_Na_33) d_Na_putSum_71 ?_
            refine nw_land (v := lN (wN ((sW w b j)))) hx hb d_Na_putSum_74 (lw_low _) ?_
            refine lv_iload hx hb d_Na_putSum_75 (lv_at hl 0 rfl) ?_
            refine lv_iload hx hb d_Na_putSum_77 (lv_at hl 2 rfl) ?_
            refine lv_icmp_ge (tgt := 98) hx hb d_Na_putSum_79 (by decide) (fun c79 => ?_) (fun c79 => ?_)
            · skip
              have c79 : sL w a ≤ j := (nI_leI (by omega) (by omega)).mp c79
              refine lv_lconst (v := lN (0)) hx hb d_Na_putSum_98 (by decide) ?_
              refine nw_ladd (v := lN (wN ((sW w b j)) + 0)) hx hb d_Na_putSum_99 (lN_add _ _) ?_
              refine nw_ladd (v := lN (cy + (wN ((sW w b j)) + 0))) hx hb d_Na_putSum_100 (lN_add _ _) ?_
              have hS1 := wN_lt (sW w b j)
              have hS2 := wN_lt (sW w a j)
              refine lv_lstore (lv' := [(7, .long (lN (cy + (wN ((sW w b j)) + 0)))), (9, .int (nI (j))), (6, .int (nI (sL w a))), (5, .int (nI (sL w b))), (4, .ref (ad (2 * a + 8))), (3, .ref (ad (2 * b + 8))), (0, .ref (ad (2 * i + 8))), (1, .ref (ad (2 * a + 8))), (2, .ref (ad (2 * b + 8)))]) hx hb d_Na_putSum_101 hl (by decide) rfl (fun ls hl => ?_)
              refine lv_aload_n hx hb d_Na_putSum_103 rfl (lv_at hl 6 rfl) ?_
              refine nw_gW hx hb hts hown hKW.1 hP (i := i) (by omega) lf_Na_9 d_Na_putSum_104 ?_
              refine lv_iload hx hb d_Na_putSum_107 (lv_at hl 1 rfl) ?_
              refine lv_lload hx hb d_Na_putSum_109 (lv_at hl 0 rfl) ?_
              refine lv_l2i (v := nI (cy + (wN ((sW w b j)) + 0))) hx hb d_Na_putSum_111 (lN_i _) ?_
              refine nw_sW hx hb hKW.1 hP hD hS (i := i) (by omega) (j := j) (by omega) d_Na_putSum_112 (fun H locs hP hD hS => ?_)
              refine lv_lload hx hb d_Na_putSum_113 (lv_at hl 0 rfl) ?_
              refine lv_bipush (v := nI (32)) hx hb d_Na_putSum_115 (by decide) ?_
              refine lv_lushr (v := lN ((cy + (wN ((sW w b j)) + 0)) / 4294967296)) hx hb d_Na_putSum_117 (lN_shr32 (by omega)) ?_
              refine lv_lstore (lv' := [(7, .long (lN ((cy + (wN ((sW w b j)) + 0)) / 4294967296))), (9, .int (nI (j))), (6, .int (nI (sL w a))), (5, .int (nI (sL w b))), (4, .ref (ad (2 * a + 8))), (3, .ref (ad (2 * b + 8))), (0, .ref (ad (2 * i + 8))), (1, .ref (ad (2 * a + 8))), (2, .ref (ad (2 * b + 8)))]) hx hb d_Na_putSum_118 hl (by decide) rfl (fun ls hl => ?_)
              refine lv_iinc (v := nI (j + 1)) (lv' := [(9, .int (nI (j + 1))), (7, .long (lN ((cy + (wN ((sW w b j)) + 0)) / 4294967296))), (6, .int (nI (sL w a))), (5, .int (nI (sL w b))), (4, .ref (ad (2 * a + 8))), (3, .ref (ad (2 * b + 8))), (0, .ref (ad (2 * i + 8))), (1, .ref (ad (2 * a + 8))), (2, .ref (ad (2 * b + 8)))]) hx hb d_Na_putSum_120 hl (k := 1) rfl (nI_add _ 1) (by decide) rfl (fun ls hl => ?_)
              refine lv_goto (tgt := 54) hx hb d_Na_putSum_123 (by decide) ?_
              rw [sW_pW, pW_pW] at hP hD
              exact ih (j + 1) (upd f j (nI (cy + (wN (sW w b j) + 0)))) ((cy + (wN (sW w b j) + 0)) / 4294967296) H locs ls (by omega) (by rw [ch_add0 hinv, vN_suc0, vM_ge c79, Nat.add_mul]; omega) (fun q hq => by rw [pk_un (by omega)]; exact hf q (by omega)) (by omega) hP hD hS (lv_sub hl [0, 1, 2, 3, 4, 5, 6, 7, 8] rfl)
            · skip
              have c79 : ¬ (sL w a ≤ j) := fun h => c79 ((nI_leI (by omega) (by omega)).mpr h)
              refine lv_aload hx hb d_Na_putSum_82 (lv_at hl 4 rfl) ?_
              refine nw_gW hx hb hts hown hKW.1 hP (i := a) (by omega) lf_Na_9 d_Na_putSum_84 ?_
              refine lv_iload hx hb d_Na_putSum_87 (lv_at hl 0 rfl) ?_
              refine nw_lW hx hb hKW.1 hP (i := a) (by omega) (j := j) (by omega) (x := sW w a j) (rdW hf (Nat.le_refl j)) d_Na_putSum_89 ?_
              refine lv_i2l (v := (sW w a j).toInt64) hx hb d_Na_putSum_90 rfl ?_
              refine lv_ldc2 (v := 4294967295) hx hb hown (hA_ hts ll_Na_33) d_Na_putSum_91 ?_
              refine nw_land (v := lN (wN ((sW w a j)))) hx hb d_Na_putSum_94 (lw_low _) ?_
              refine lv_goto (tgt := 99) hx hb d_Na_putSum_95 (by decide) ?_
              refine nw_ladd (v := lN (wN ((sW w b j)) + (wN ((sW w a j))))) hx hb d_Na_putSum_99 (lN_add _ _) ?_
              refine nw_ladd (v := lN (cy + (wN ((sW w b j)) + (wN ((sW w a j)))))) hx hb d_Na_putSum_100 (lN_add _ _) ?_
              have hS1 := wN_lt (sW w b j)
              have hS2 := wN_lt (sW w a j)
              refine lv_lstore (lv' := [(7, .long (lN (cy + (wN ((sW w b j)) + (wN ((sW w a j))))))), (9, .int (nI (j))), (6, .int (nI (sL w a))), (5, .int (nI (sL w b))), (4, .ref (ad (2 * a + 8))), (3, .ref (ad (2 * b + 8))), (0, .ref (ad (2 * i + 8))), (1, .ref (ad (2 * a + 8))), (2, .ref (ad (2 * b + 8)))]) hx hb d_Na_putSum_101 hl (by decide) rfl (fun ls hl => ?_)
              refine lv_aload_n hx hb d_Na_putSum_103 rfl (lv_at hl 6 rfl) ?_
              refine nw_gW hx hb hts hown hKW.1 hP (i := i) (by omega) lf_Na_9 d_Na_putSum_104 ?_
              refine lv_iload hx hb d_Na_putSum_107 (lv_at hl 1 rfl) ?_
              refine lv_lload hx hb d_Na_putSum_109 (lv_at hl 0 rfl) ?_
              refine lv_l2i (v := nI (cy + (wN ((sW w b j)) + (wN ((sW w a j)))))) hx hb d_Na_putSum_111 (lN_i _) ?_
              refine nw_sW hx hb hKW.1 hP hD hS (i := i) (by omega) (j := j) (by omega) d_Na_putSum_112 (fun H locs hP hD hS => ?_)
              refine lv_lload hx hb d_Na_putSum_113 (lv_at hl 0 rfl) ?_
              refine lv_bipush (v := nI (32)) hx hb d_Na_putSum_115 (by decide) ?_
              refine lv_lushr (v := lN ((cy + (wN ((sW w b j)) + (wN ((sW w a j))))) / 4294967296)) hx hb d_Na_putSum_117 (lN_shr32 (by omega)) ?_
              refine lv_lstore (lv' := [(7, .long (lN ((cy + (wN ((sW w b j)) + (wN ((sW w a j))))) / 4294967296))), (9, .int (nI (j))), (6, .int (nI (sL w a))), (5, .int (nI (sL w b))), (4, .ref (ad (2 * a + 8))), (3, .ref (ad (2 * b + 8))), (0, .ref (ad (2 * i + 8))), (1, .ref (ad (2 * a + 8))), (2, .ref (ad (2 * b + 8)))]) hx hb d_Na_putSum_118 hl (by decide) rfl (fun ls hl => ?_)
              refine lv_iinc (v := nI (j + 1)) (lv' := [(9, .int (nI (j + 1))), (7, .long (lN ((cy + (wN ((sW w b j)) + (wN ((sW w a j))))) / 4294967296))), (6, .int (nI (sL w a))), (5, .int (nI (sL w b))), (4, .ref (ad (2 * a + 8))), (3, .ref (ad (2 * b + 8))), (0, .ref (ad (2 * i + 8))), (1, .ref (ad (2 * a + 8))), (2, .ref (ad (2 * b + 8)))]) hx hb d_Na_putSum_120 hl (k := 1) rfl (nI_add _ 1) (by decide) rfl (fun ls hl => ?_)
              refine lv_goto (tgt := 54) hx hb d_Na_putSum_123 (by decide) ?_
              rw [sW_pW, pW_pW] at hP hD
              exact ih (j + 1) (upd f j (nI (cy + (wN (sW w b j) + wN (sW w a j))))) ((cy + (wN (sW w b j) + wN (sW w a j))) / 4294967296) H locs ls (by omega) (by rw [ch_add0 hinv, vN_suc0, vM_lt (Nat.not_le.mp c79), Nat.add_mul]; omega) (fun q hq => by rw [pk_un (by omega)]; exact hf q (by omega)) (by omega) hP hD hS (lv_sub hl [0, 1, 2, 3, 4, 5, 6, 7, 8] rfl)
      have hl : lv_has ls 10 [(9, .int (nI (0))), (7, .long (lN (0))), (6, .int (nI (sL w a))), (5, .int (nI (sL w b))), (4, .ref (ad (2 * a + 8))), (3, .ref (ad (2 * b + 8))), (0, .ref (ad (2 * i + 8))), (1, .ref (ad (2 * a + 8))), (2, .ref (ad (2 * b + 8)))] := lv_sub hl [0, 1, 2, 3, 4, 5, 6, 7, 8] rfl
      have e0 : pW w i (sW w i) = w := pW_self w i
      exact loop (sL w b) 0 (sW w i) 0 _ _ ls (by omega) (by rw [vM_0]; rfl) (fun _ _ => rfl) (by omega) (by rw [e0]; exact hP) (by rw [e0]; exact hD) hS hl
    · exact absurd (nI_lt c8 (by omega)) c25
  · skip
    have c8 : ¬ (sL (w) a < sL (w) b) := fun h => c8 ((nI_ltI (by omega) (by omega)).mpr h)
    refine lv_aload_n hx hb d_Na_putSum_11 rfl (lv_at hl 1 rfl) ?_
    refine lv_goto (tgt := 16) hx hb d_Na_putSum_12 (by decide) ?_
    refine lv_astore_n (lv' := [(3, .ref (ad (2 * a + 8))), (0, .ref (ad (2 * i + 8))), (1, .ref (ad (2 * a + 8))), (2, .ref (ad (2 * b + 8)))]) hx hb d_Na_putSum_16 rfl hl (by decide) rfl (fun ls hl => ?_)
    refine lv_aload_n hx hb d_Na_putSum_17 rfl (lv_at hl 2 rfl) ?_
    refine nw_gL hx hb hts hown hKW.1 hP (i := a) (by omega) (n := sL (w) a) rfl lf_Na_15 d_Na_putSum_18 ?_
    refine lv_aload_n hx hb d_Na_putSum_21 rfl (lv_at hl 3 rfl) ?_
    refine nw_gL hx hb hts hown hKW.1 hP (i := b) (by omega) (n := sL (w) b) rfl lf_Na_15 d_Na_putSum_22 ?_
    refine lv_icmp_lt (tgt := 32) hx hb d_Na_putSum_25 (by decide) (fun c25 => ?_) (fun c25 => ?_)
    · exact absurd ((nI_ltI (by omega) (by omega)).mp c25) c8
    · skip
      have c25 : ¬ (sL (w) a < sL (w) b) := fun h => c25 ((nI_ltI (by omega) (by omega)).mpr h)
      refine lv_aload_n hx hb d_Na_putSum_28 rfl (lv_at hl 3 rfl) ?_
      refine lv_goto (tgt := 33) hx hb d_Na_putSum_29 (by decide) ?_
      refine lv_astore (lv' := [(4, .ref (ad (2 * b + 8))), (3, .ref (ad (2 * a + 8))), (0, .ref (ad (2 * i + 8))), (1, .ref (ad (2 * a + 8))), (2, .ref (ad (2 * b + 8)))]) hx hb d_Na_putSum_33 hl (by decide) rfl (fun ls hl => ?_)
      refine lv_aload_n hx hb d_Na_putSum_35 rfl (lv_at hl 1 rfl) ?_
      refine nw_gL hx hb hts hown hKW.1 hP (i := a) (by omega) (n := sL (w) a) rfl lf_Na_15 d_Na_putSum_36 ?_
      refine lv_istore (lv' := [(5, .int (nI (sL (w) a))), (4, .ref (ad (2 * b + 8))), (3, .ref (ad (2 * a + 8))), (0, .ref (ad (2 * i + 8))), (1, .ref (ad (2 * a + 8))), (2, .ref (ad (2 * b + 8)))]) hx hb d_Na_putSum_39 hl (by decide) rfl (fun ls hl => ?_)
      refine lv_aload hx hb d_Na_putSum_41 (lv_at hl 1 rfl) ?_
      refine nw_gL hx hb hts hown hKW.1 hP (i := b) (by omega) (n := sL (w) b) rfl lf_Na_15 d_Na_putSum_43 ?_
      refine lv_istore (lv' := [(6, .int (nI (sL (w) b))), (5, .int (nI (sL (w) a))), (4, .ref (ad (2 * b + 8))), (3, .ref (ad (2 * a + 8))), (0, .ref (ad (2 * i + 8))), (1, .ref (ad (2 * a + 8))), (2, .ref (ad (2 * b + 8)))]) hx hb d_Na_putSum_46 hl (by decide) rfl (fun ls hl => ?_)
      refine lv_lconst (v := lN (0)) hx hb d_Na_putSum_48 (by decide) ?_
      refine lv_lstore (lv' := [(7, .long (lN (0))), (6, .int (nI (sL (w) b))), (5, .int (nI (sL (w) a))), (4, .ref (ad (2 * b + 8))), (3, .ref (ad (2 * a + 8))), (0, .ref (ad (2 * i + 8))), (1, .ref (ad (2 * a + 8))), (2, .ref (ad (2 * b + 8)))]) hx hb d_Na_putSum_49 hl (by decide) rfl (fun ls hl => ?_)
      refine lv_iconst (v := nI (0)) hx hb d_Na_putSum_51 (by decide) ?_
      refine lv_istore (lv' := [(9, .int (nI (0))), (7, .long (lN (0))), (6, .int (nI (sL (w) b))), (5, .int (nI (sL (w) a))), (4, .ref (ad (2 * b + 8))), (3, .ref (ad (2 * a + 8))), (0, .ref (ad (2 * i + 8))), (1, .ref (ad (2 * a + 8))), (2, .ref (ad (2 * b + 8)))]) hx hb d_Na_putSum_52 hl (by decide) rfl (fun ls hl => ?_)
      have loop : ∀ (n j : Nat) (f : Nat → Int32) (cy : Nat) (H : Heap) (locs : List Loc) (ls : Array Slot), j + n = sL w a → vN f 0 j + cy * 4294967296 ^ j = vN (sW w a) 0 j + vM (sW w b) (sL w b) j → (∀ q, j ≤ q → f q = sW w i q) → cy ≤ 1 → va_P D clA (NC cI cB cR ad (pW w i f)) H → va_D (AA ad s.heap.size) (NC cI cB cR ad (pW w i f)) → va_S (AA ad s.heap.size) s.heap H locs → lv_has ls 10 [(9, .int (nI (j))), (7, .long (lN (cy))), (6, .int (nI (sL w b))), (5, .int (nI (sL w a))), (4, .ref (ad (2 * b + 8))), (3, .ref (ad (2 * a + 8))), (0, .ref (ad (2 * i + 8))), (1, .ref (ad (2 * a + 8))), (2, .ref (ad (2 * b + 8)))] → W p l e (headSpec (q_Na_putSum :: wA) { frames := 1, cells := 0, slots := 0, locals := 24 }).room s m ([.ref (ad (2 * i + 8)), .ref (ad (2 * a + 8)), .ref (ad (2 * b + 8))] : List Value).toArray below meth c H locs 0 0 (MQ below (va_Qv (fun w1 : St => eqN w w1 i ∧ NV w1 i (v + u)) (BW D cI cB cR ad) (AA ad s.heap.size)) ([.ref (ad (2 * i + 8)), .ref (ad (2 * a + 8)), .ref (ad (2 * b + 8))] : List Value).toArray s 0 0 (AA ad s.heap.size)) (F0 m 54 ls []) := by
        intro n
        induction n with
        | zero =>
          intro j f cy H locs ls hj hinv hf hc hP hD hS hl
          refine lv_iload hx hb d_Na_putSum_54 (lv_at hl 0 rfl) ?_
          refine lv_iload hx hb d_Na_putSum_56 (lv_at hl 3 rfl) ?_
          refine lv_icmp_ge (tgt := 126) hx hb d_Na_putSum_58 (by decide) (fun c58 => ?_) (fun c58 => ?_)
          · skip
            have c58 : sL w a ≤ j := (nI_leI (by omega) (by omega)).mp c58
            have ej : j = sL w a := by omega
            subst ej
            refine lv_aload_n hx hb d_Na_putSum_126 rfl (lv_at hl 6 rfl) ?_
            refine nw_gW hx hb hts hown hKW.1 hP (i := i) (by omega) lf_Na_9 d_Na_putSum_127 ?_
            refine lv_iload hx hb d_Na_putSum_130 (lv_at hl 3 rfl) ?_
            refine lv_lload hx hb d_Na_putSum_132 (lv_at hl 1 rfl) ?_
            refine lv_l2i (v := nI (cy)) hx hb d_Na_putSum_134 (lN_i _) ?_
            refine nw_sW hx hb hKW.1 hP hD hS (i := i) (by omega) (j := sL w a) (by omega) d_Na_putSum_135 (fun H locs hP hD hS => ?_)
            refine lv_aload_n hx hb d_Na_putSum_136 rfl (lv_at hl 6 rfl) ?_
            refine lv_iload hx hb d_Na_putSum_137 (lv_at hl 3 rfl) ?_
            refine lv_iconst (v := nI (1)) hx hb d_Na_putSum_139 (by decide) ?_
            refine nw_iadd (v := nI (sL w a + 1)) hx hb d_Na_putSum_140 (nI_add _ _) ?_
            refine wV_v (As := [.int (nI (sL w a + 1))]) (rest := []) (n := 1) ⟨hx, hb, hml, hown, hts⟩ (c_Na_trim l (pW (pW w i f) i (upd (sW (pW w i f) i) (sL w a) (nI (cy)))) _ (i := i) (n := sL w a + 1) hi (by omega)) (cwV0 1 hts lm_Na_23 im_Na_trim se_Na_trim in_Na kq_Na_trim rfl rfl rfl (by decide +kernel) ⟨Nat.le_of_ble_eq_true rfl, Nat.le_of_ble_eq_true rfl⟩) (recvN hKW.1 hP (i := i) (by omega)) hKW hP hD hS rfl hl.1 rfl (Nat.le_of_ble_eq_true rfl) d_Na_putSum_141 ⟨Nat.zero_le _, Nat.zero_le _⟩ (fun w1 H locs hp hP hD hS => ?_)
            simp only [sW_pW, pW_pW] at hp
            have e2 : vN (upd f (sL w a) (nI cy)) 0 (sL w a + 1) = v + u := by
              rw [vN_suc0, pk_us, vN_out (Or.inr (by omega)), wN_nI, Nat.mod_eq_of_lt (by omega), hinv, vM_all (by omega), hv.2.2, hu.2.2]
            exact W.vret hx hb hr (fun t ht hW => ⟨⟨w1, rfl, ⟨by rw [hp]; exact eqN_tr w i _ _, by rw [hp]; have := NV_tr (w := w) (i := i) (n := sL w a + 1) (f := upd f (sL w a) (nI cy)) (by omega); rw [e2] at this; exact this⟩, BW_of ht hP⟩, hS.F ht⟩) hS.2.2 d_Na_putSum_144
          · exact absurd (nI_le (by omega) (by omega)) c58
        | succ n ih =>
          intro j f cy H locs ls hj hinv hf hc hP hD hS hl
          refine lv_iload hx hb d_Na_putSum_54 (lv_at hl 0 rfl) ?_
          refine lv_iload hx hb d_Na_putSum_56 (lv_at hl 3 rfl) ?_
          refine lv_icmp_ge (tgt := 126) hx hb d_Na_putSum_58 (by decide) (fun c58 => ?_) (fun c58 => ?_)
          · exact absurd c58 (nI_ge (by omega) (by omega))
          · skip
            refine lv_lload hx hb d_Na_putSum_61 (lv_at hl 1 rfl) ?_
            refine lv_aload_n hx hb d_Na_putSum_63 rfl (lv_at hl 5 rfl) ?_
            refine nw_gW hx hb hts hown hKW.1 hP (i := a) (by omega) lf_Na_9 d_Na_putSum_64 ?_
            refine lv_iload hx hb d_Na_putSum_67 (lv_at hl 0 rfl) ?_
            refine nw_lW hx hb hKW.1 hP (i := a) (by omega) (j := j) (by omega) (x := sW w a j) (rdW hf (Nat.le_refl j)) d_Na_putSum_69 ?_
            refine lv_i2l (v := (sW w a j).toInt64) hx hb d_Na_putSum_70 rfl ?_
            refine lv_ldc2 (v := 4294967295) hx hb hown (hA_ hts ll_Na_33) d_Na_putSum_71 ?_
            refine nw_land (v := lN (wN ((sW w a j)))) hx hb d_Na_putSum_74 (lw_low _) ?_
            refine lv_iload hx hb d_Na_putSum_75 (lv_at hl 0 rfl) ?_
            refine lv_iload hx hb d_Na_putSum_77 (lv_at hl 2 rfl) ?_
            refine lv_icmp_ge (tgt := 98) hx hb d_Na_putSum_79 (by decide) (fun c79 => ?_) (fun c79 => ?_)
            · skip
              have c79 : sL w b ≤ j := (nI_leI (by omega) (by omega)).mp c79
              refine lv_lconst (v := lN (0)) hx hb d_Na_putSum_98 (by decide) ?_
              refine nw_ladd (v := lN (wN ((sW w a j)) + 0)) hx hb d_Na_putSum_99 (lN_add _ _) ?_
              refine nw_ladd (v := lN (cy + (wN ((sW w a j)) + 0))) hx hb d_Na_putSum_100 (lN_add _ _) ?_
              have hS1 := wN_lt (sW w a j)
              have hS2 := wN_lt (sW w b j)
              refine lv_lstore (lv' := [(7, .long (lN (cy + (wN ((sW w a j)) + 0)))), (9, .int (nI (j))), (6, .int (nI (sL w b))), (5, .int (nI (sL w a))), (4, .ref (ad (2 * b + 8))), (3, .ref (ad (2 * a + 8))), (0, .ref (ad (2 * i + 8))), (1, .ref (ad (2 * a + 8))), (2, .ref (ad (2 * b + 8)))]) hx hb d_Na_putSum_101 hl (by decide) rfl (fun ls hl => ?_)
              refine lv_aload_n hx hb d_Na_putSum_103 rfl (lv_at hl 6 rfl) ?_
              refine nw_gW hx hb hts hown hKW.1 hP (i := i) (by omega) lf_Na_9 d_Na_putSum_104 ?_
              refine lv_iload hx hb d_Na_putSum_107 (lv_at hl 1 rfl) ?_
              refine lv_lload hx hb d_Na_putSum_109 (lv_at hl 0 rfl) ?_
              refine lv_l2i (v := nI (cy + (wN ((sW w a j)) + 0))) hx hb d_Na_putSum_111 (lN_i _) ?_
              refine nw_sW hx hb hKW.1 hP hD hS (i := i) (by omega) (j := j) (by omega) d_Na_putSum_112 (fun H locs hP hD hS => ?_)
              refine lv_lload hx hb d_Na_putSum_113 (lv_at hl 0 rfl) ?_
              refine lv_bipush (v := nI (32)) hx hb d_Na_putSum_115 (by decide) ?_
              refine lv_lushr (v := lN ((cy + (wN ((sW w a j)) + 0)) / 4294967296)) hx hb d_Na_putSum_117 (lN_shr32 (by omega)) ?_
              refine lv_lstore (lv' := [(7, .long (lN ((cy + (wN ((sW w a j)) + 0)) / 4294967296))), (9, .int (nI (j))), (6, .int (nI (sL w b))), (5, .int (nI (sL w a))), (4, .ref (ad (2 * b + 8))), (3, .ref (ad (2 * a + 8))), (0, .ref (ad (2 * i + 8))), (1, .ref (ad (2 * a + 8))), (2, .ref (ad (2 * b + 8)))]) hx hb d_Na_putSum_118 hl (by decide) rfl (fun ls hl => ?_)
              refine lv_iinc (v := nI (j + 1)) (lv' := [(9, .int (nI (j + 1))), (7, .long (lN ((cy + (wN ((sW w a j)) + 0)) / 4294967296))), (6, .int (nI (sL w b))), (5, .int (nI (sL w a))), (4, .ref (ad (2 * b + 8))), (3, .ref (ad (2 * a + 8))), (0, .ref (ad (2 * i + 8))), (1, .ref (ad (2 * a + 8))), (2, .ref (ad (2 * b + 8)))]) hx hb d_Na_putSum_120 hl (k := 1) rfl (nI_add _ 1) (by decide) rfl (fun ls hl => ?_)
              refine lv_goto (tgt := 54) hx hb d_Na_putSum_123 (by decide) ?_
              rw [sW_pW, pW_pW] at hP hD
              exact ih (j + 1) (upd f j (nI (cy + (wN (sW w a j) + 0)))) ((cy + (wN (sW w a j) + 0)) / 4294967296) H locs ls (by omega) (by rw [ch_add0 hinv, vN_suc0, vM_ge c79, Nat.add_mul]; omega) (fun q hq => by rw [pk_un (by omega)]; exact hf q (by omega)) (by omega) hP hD hS (lv_sub hl [0, 1, 2, 3, 4, 5, 6, 7, 8] rfl)
            · skip
              have c79 : ¬ (sL w b ≤ j) := fun h => c79 ((nI_leI (by omega) (by omega)).mpr h)
              refine lv_aload hx hb d_Na_putSum_82 (lv_at hl 4 rfl) ?_
              refine nw_gW hx hb hts hown hKW.1 hP (i := b) (by omega) lf_Na_9 d_Na_putSum_84 ?_
              refine lv_iload hx hb d_Na_putSum_87 (lv_at hl 0 rfl) ?_
              refine nw_lW hx hb hKW.1 hP (i := b) (by omega) (j := j) (by omega) (x := sW w b j) (rdW hf (Nat.le_refl j)) d_Na_putSum_89 ?_
              refine lv_i2l (v := (sW w b j).toInt64) hx hb d_Na_putSum_90 rfl ?_
              refine lv_ldc2 (v := 4294967295) hx hb hown (hA_ hts ll_Na_33) d_Na_putSum_91 ?_
              refine nw_land (v := lN (wN ((sW w b j)))) hx hb d_Na_putSum_94 (lw_low _) ?_
              refine lv_goto (tgt := 99) hx hb d_Na_putSum_95 (by decide) ?_
              refine nw_ladd (v := lN (wN ((sW w a j)) + (wN ((sW w b j))))) hx hb d_Na_putSum_99 (lN_add _ _) ?_
              refine nw_ladd (v := lN (cy + (wN ((sW w a j)) + (wN ((sW w b j)))))) hx hb d_Na_putSum_100 (lN_add _ _) ?_
              have hS1 := wN_lt (sW w a j)
              have hS2 := wN_lt (sW w b j)
              refine lv_lstore (lv' := [(7, .long (lN (cy + (wN ((sW w a j)) + (wN ((sW w b j))))))), (9, .int (nI (j))), (6, .int (nI (sL w b))), (5, .int (nI (sL w a))), (4, .ref (ad (2 * b + 8))), (3, .ref (ad (2 * a + 8))), (0, .ref (ad (2 * i + 8))), (1, .ref (ad (2 * a + 8))), (2, .ref (ad (2 * b + 8)))]) hx hb d_Na_putSum_101 hl (by decide) rfl (fun ls hl => ?_)
              refine lv_aload_n hx hb d_Na_putSum_103 rfl (lv_at hl 6 rfl) ?_
              refine nw_gW hx hb hts hown hKW.1 hP (i := i) (by omega) lf_Na_9 d_Na_putSum_104 ?_
              refine lv_iload hx hb d_Na_putSum_107 (lv_at hl 1 rfl) ?_
              refine lv_lload hx hb d_Na_putSum_109 (lv_at hl 0 rfl) ?_
              refine lv_l2i (v := nI (cy + (wN ((sW w a j)) + (wN ((sW w b j)))))) hx hb d_Na_putSum_111 (lN_i _) ?_
              refine nw_sW hx hb hKW.1 hP hD hS (i := i) (by omega) (j := j) (by omega) d_Na_putSum_112 (fun H locs hP hD hS => ?_)
              refine lv_lload hx hb d_Na_putSum_113 (lv_at hl 0 rfl) ?_
              refine lv_bipush (v := nI (32)) hx hb d_Na_putSum_115 (by decide) ?_
              refine lv_lushr (v := lN ((cy + (wN ((sW w a j)) + (wN ((sW w b j))))) / 4294967296)) hx hb d_Na_putSum_117 (lN_shr32 (by omega)) ?_
              refine lv_lstore (lv' := [(7, .long (lN ((cy + (wN ((sW w a j)) + (wN ((sW w b j))))) / 4294967296))), (9, .int (nI (j))), (6, .int (nI (sL w b))), (5, .int (nI (sL w a))), (4, .ref (ad (2 * b + 8))), (3, .ref (ad (2 * a + 8))), (0, .ref (ad (2 * i + 8))), (1, .ref (ad (2 * a + 8))), (2, .ref (ad (2 * b + 8)))]) hx hb d_Na_putSum_118 hl (by decide) rfl (fun ls hl => ?_)
              refine lv_iinc (v := nI (j + 1)) (lv' := [(9, .int (nI (j + 1))), (7, .long (lN ((cy + (wN ((sW w a j)) + (wN ((sW w b j))))) / 4294967296))), (6, .int (nI (sL w b))), (5, .int (nI (sL w a))), (4, .ref (ad (2 * b + 8))), (3, .ref (ad (2 * a + 8))), (0, .ref (ad (2 * i + 8))), (1, .ref (ad (2 * a + 8))), (2, .ref (ad (2 * b + 8)))]) hx hb d_Na_putSum_120 hl (k := 1) rfl (nI_add _ 1) (by decide) rfl (fun ls hl => ?_)
              refine lv_goto (tgt := 54) hx hb d_Na_putSum_123 (by decide) ?_
              rw [sW_pW, pW_pW] at hP hD
              exact ih (j + 1) (upd f j (nI (cy + (wN (sW w a j) + wN (sW w b j))))) ((cy + (wN (sW w a j) + wN (sW w b j))) / 4294967296) H locs ls (by omega) (by rw [ch_add0 hinv, vN_suc0, vM_lt (Nat.not_le.mp c79), Nat.add_mul]; omega) (fun q hq => by rw [pk_un (by omega)]; exact hf q (by omega)) (by omega) hP hD hS (lv_sub hl [0, 1, 2, 3, 4, 5, 6, 7, 8] rfl)
      have hl : lv_has ls 10 [(9, .int (nI (0))), (7, .long (lN (0))), (6, .int (nI (sL w b))), (5, .int (nI (sL w a))), (4, .ref (ad (2 * b + 8))), (3, .ref (ad (2 * a + 8))), (0, .ref (ad (2 * i + 8))), (1, .ref (ad (2 * a + 8))), (2, .ref (ad (2 * b + 8)))] := lv_sub hl [0, 1, 2, 3, 4, 5, 6, 7, 8] rfl
      have e0 : pW w i (sW w i) = w := pW_self w i
      exact loop (sL w a) 0 (sW w i) 0 _ _ ls (by omega) (by rw [vM_0]; rfl) (fun _ _ => rfl) (by omega) (by rw [e0]; exact hP) (by rw [e0]; exact hD) hS hl
end
section
/-! PIECES for subtraction -/
theorem lZ_pm {a b : Nat} : lN a - lN b = lZ ((a : Int) - (b : Int)) := by rw [lZ_N, lZ_N, lZ_sub]
theorem lZ_z (a : Nat) : lN a - lN 0 = lZ ((a : Int) - ((0 : Nat) : Int)) := lZ_pm
theorem lZ_0 : lN 0 = lZ 0 := lZ_N 0
theorem NV.le_len {w : St} {a b v u : Nat} (hv : NV w a v) (hu : NV w b u) (h : u ≤ v) : sL w b ≤ sL w a := by
  rcases Nat.lt_or_ge (sL w a) (sL w b) with q | q
  · have h1 := hu.ge (by omega)
    have h2 := hv.lt
    have h3 : (4294967296 : Nat) ^ sL w a ≤ 4294967296 ^ (sL w b - 1) := Nat.pow_le_pow_right (by decide) (by omega)
    omega
  · exact q
/-- one step of a subtraction: the values so far -/
theorem sb_step {f g h : Nat → Int32} {m j : Nat} {o x y : Int} {V U : Nat} (hinv : (vN f 0 j : Int) + o * 4294967296 ^ j = (V : Int) - (U : Int)) {V' U' : Nat} (hV : (V' : Int) = (V : Int) + x * 4294967296 ^ j) (hU : (U' : Int) = (U : Int) + y * 4294967296 ^ j) :
    (vN (upd f j (lZ (o + (x - y))).toInt32) 0 (j + 1) : Int) + (o + (x - y)) / 4294967296 * 4294967296 ^ (j + 1) = (V' : Int) - (U' : Int) := by
  rw [ch_addZ0 hinv, hV, hU, Int.sub_mul]
  omega
theorem sb_lt (f : Nat → Int32) (j : Nat) : ((vN f 0 (j + 1) : Nat) : Int) = (vN f 0 j : Int) + (wN (f j) : Int) * 4294967296 ^ j := by
  rw [vN_suc0, Int.natCast_add, Int.natCast_mul, Int.natCast_pow]
  rfl
theorem sb_Mlt {f : Nat → Int32} {m j : Nat} (h : j < m) : ((vM f m (j + 1) : Nat) : Int) = (vM f m j : Int) + (wN (f j) : Int) * 4294967296 ^ j := by
  rw [vM_lt h, Int.natCast_add, Int.natCast_mul, Int.natCast_pow]
  rfl
theorem sb_Mge {f : Nat → Int32} {m j : Nat} (h : m ≤ j) : ((vM f m (j + 1) : Nat) : Int) = (vM f m j : Int) + ((0 : Nat) : Int) * 4294967296 ^ j := by
  rw [vM_ge h]
  omega
theorem sb_end {n V U : Nat} {f : Nat → Int32} {o : Int} (ho : o = 0 ∨ o = -1) (h : (vN f 0 n : Int) + o * 4294967296 ^ n = (V : Int) - (U : Int)) (hUV : U ≤ V) : vN f 0 n = V - U := by
  have h1 := vN_lt f 0 n
  have h2 : ((vN f 0 n : Nat) : Int) < (4294967296 : Int) ^ n := by
    have := Int.ofNat_lt.mpr h1
    rw [Int.natCast_pow] at this
    exact this
  rcases ho with e | e
  · rw [e] at h
    omega
  · rw [e] at h
    omega
end
section
/-! NUMBERS: the contracts of Natural, 5 (rows laid by wip/whole/gen/c_na5.py) -/
set_option maxHeartbeats 4000000 in
set_option maxRecDepth 100000 in
/-- putDifference(a, b) -/
theorem c_Na_putDifference (l : Launch) {D : va_G} {cI cB cR : ClassId} {ad : Nat → Nat} (w : St) (sz : Nat) {i a b v u : Nat} (hi : i < 14) (ha : a < 14) (hb14 : b < 14) (hv : NV w a v) (hu : NV w b u) (huv : u ≤ v) : Met l y_Na_putDifference (q_Na_putDifference :: wA) { frames := 1, cells := 0, slots := 0, locals := 24 } (va_Pc [.ref (ad (2 * i + 8)), .ref (ad (2 * a + 8)), .ref (ad (2 * b + 8))] (PW D cI cB cR ad w sz)) (va_Qv (fun w1 : St => eqN w w1 i ∧ NV w1 i (v - u)) (BW D cI cB cR ad) (AA ad sz)) 0 0 (AA ad sz) := by
  refine Met.ofW (cc := b_Na_putDifference) (maxL := 8) (ret := none) (by decide) rfl ?_
  intro p e s m args below meth c s₁ B hml hv
  obtain ⟨rfl, hsz, hP, hD0, hKW⟩ := hv
  have hx := B.exec
  have hb := B.bytes
  have hr := B.returns
  have hts := atoms_spec (ws := q_Na_putDifference :: wA) B.pre
  have hown : s.vm.findClass R_Na = some m.cls := findClass_of_methodNamed B.named
  have hlocks := B.notSynchronized
  subst hsz
  have hD := NC_AA (sz := s.heap.size) hD0
  have hS : va_S (AA ad s.heap.size) s.heap s.heap [] := va_S.rf
  have hl := lv_entry ([.ref (ad (2 * i + 8)), .ref (ad (2 * a + 8)), .ref (ad (2 * b + 8))]) (n := 8) (Nat.le_of_ble_eq_true rfl)
  rw [lg_entry_eq]
  generalize (lg_sl ([.ref (ad (2 * i + 8)), .ref (ad (2 * a + 8)), .ref (ad (2 * b + 8))]) ++ List.replicate (8 - (lg_sl ([.ref (ad (2 * i + 8)), .ref (ad (2 * a + 8)), .ref (ad (2 * b + 8))])).length) Slot.unset).toArray = ls at hl ⊢
  have hl : lv_has ls 8 [(0, .ref (ad (2 * i + 8))), (1, .ref (ad (2 * a + 8))), (2, .ref (ad (2 * b + 8)))] := hl
  have hla := hv.len
  have hlb := hv.le_len hu huv
  refine lv_aload_n hx hb d_Na_putDifference_0 rfl (lv_at hl 1 rfl) ?_
  refine nw_gL hx hb hts hown hKW.1 hP (i := a) (by omega) (n := sL (w) a) rfl lf_Na_15 d_Na_putDifference_1 ?_
  refine lv_istore_n (lv' := [(3, .int (nI (sL (w) a))), (0, .ref (ad (2 * i + 8))), (1, .ref (ad (2 * a + 8))), (2, .ref (ad (2 * b + 8)))]) hx hb d_Na_putDifference_4 rfl hl (by decide) rfl (fun ls hl => ?_)
  refine lv_aload_n hx hb d_Na_putDifference_5 rfl (lv_at hl 3 rfl) ?_
  refine nw_gL hx hb hts hown hKW.1 hP (i := b) (by omega) (n := sL (w) b) rfl lf_Na_15 d_Na_putDifference_6 ?_
  refine lv_istore (lv' := [(4, .int (nI (sL (w) b))), (3, .int (nI (sL (w) a))), (0, .ref (ad (2 * i + 8))), (1, .ref (ad (2 * a + 8))), (2, .ref (ad (2 * b + 8)))]) hx hb d_Na_putDifference_9 hl (by decide) rfl (fun ls hl => ?_)
  refine lv_lconst (v := lN (0)) hx hb d_Na_putDifference_11 (by decide) ?_
  refine lv_lstore (lv' := [(5, .long (lN (0))), (4, .int (nI (sL (w) b))), (3, .int (nI (sL (w) a))), (0, .ref (ad (2 * i + 8))), (1, .ref (ad (2 * a + 8))), (2, .ref (ad (2 * b + 8)))]) hx hb d_Na_putDifference_12 hl (by decide) rfl (fun ls hl => ?_)
  refine lv_iconst (v := nI (0)) hx hb d_Na_putDifference_14 (by decide) ?_
  refine lv_istore (lv' := [(7, .int (nI (0))), (5, .long (lN (0))), (4, .int (nI (sL (w) b))), (3, .int (nI (sL (w) a))), (0, .ref (ad (2 * i + 8))), (1, .ref (ad (2 * a + 8))), (2, .ref (ad (2 * b + 8)))]) hx hb d_Na_putDifference_15 hl (by decide) rfl (fun ls hl => ?_)
  have loop : ∀ (n j : Nat) (f : Nat → Int32) (o : Int) (H : Heap) (locs : List Loc) (ls : Array Slot), j + n = sL w a → ((vN f 0 j : Nat) : Int) + o * 4294967296 ^ j = ((vN (sW w a) 0 j : Nat) : Int) - ((vM (sW w b) (sL w b) j : Nat) : Int) → (∀ q, j ≤ q → f q = sW w i q) → (o = 0 ∨ o = -1) → va_P D clA (NC cI cB cR ad (pW w i f)) H → va_D (AA ad s.heap.size) (NC cI cB cR ad (pW w i f)) → va_S (AA ad s.heap.size) s.heap H locs → lv_has ls 8 [(7, .int (nI (j))), (5, .long (lZ (o))), (4, .int (nI (sL w b))), (3, .int (nI (sL w a))), (0, .ref (ad (2 * i + 8))), (1, .ref (ad (2 * a + 8))), (2, .ref (ad (2 * b + 8)))] → W p l e (headSpec (q_Na_putDifference :: wA) { frames := 1, cells := 0, slots := 0, locals := 24 }).room s m ([.ref (ad (2 * i + 8)), .ref (ad (2 * a + 8)), .ref (ad (2 * b + 8))] : List Value).toArray below meth c H locs 0 0 (MQ below (va_Qv (fun w1 : St => eqN w w1 i ∧ NV w1 i (v - u)) (BW D cI cB cR ad) (AA ad s.heap.size)) ([.ref (ad (2 * i + 8)), .ref (ad (2 * a + 8)), .ref (ad (2 * b + 8))] : List Value).toArray s 0 0 (AA ad s.heap.size)) (F0 m 17 ls []) := by
    intro n
    induction n with
    | zero =>
      intro j f o H locs ls hj hinv hf ho hP hD hS hl
      refine lv_iload hx hb d_Na_putDifference_17 (lv_at hl 0 rfl) ?_
      refine lv_iload_n hx hb d_Na_putDifference_19 rfl (lv_at hl 3 rfl) ?_
      refine lv_icmp_ge (tgt := 87) hx hb d_Na_putDifference_20 (by decide) (fun c20 => ?_) (fun c20 => ?_)
      · skip
        have c20 : sL w a ≤ j := (nI_leI (by omega) (by omega)).mp c20
        have ej : j = sL w a := by omega
        subst ej
        refine lv_aload_n hx hb d_Na_putDifference_87 rfl (lv_at hl 4 rfl) ?_
        refine lv_iload_n hx hb d_Na_putDifference_88 rfl (lv_at hl 3 rfl) ?_
        refine wV_v (As := [.int (nI (sL w a))]) (rest := []) (n := 1) ⟨hx, hb, hml, hown, hts⟩ (c_Na_trim l (pW w i f) _ (i := i) (n := sL w a) hi (by omega)) (cwV0 1 hts lm_Na_23 im_Na_trim se_Na_trim in_Na kq_Na_trim rfl rfl rfl (by decide +kernel) ⟨Nat.le_of_ble_eq_true rfl, Nat.le_of_ble_eq_true rfl⟩) (recvN hKW.1 hP (i := i) (by omega)) hKW hP hD hS rfl hl.1 rfl (Nat.le_of_ble_eq_true rfl) d_Na_putDifference_89 ⟨Nat.zero_le _, Nat.zero_le _⟩ (fun w1 H locs hp hP hD hS => ?_)
        simp only [sW_pW, pW_pW] at hp
        have e2 : vN f 0 (sL w a) = v - u := by
          have := sb_end ho hinv (by rw [vM_all hlb, hv.2.2, hu.2.2]; exact huv)
          rw [vM_all hlb, hv.2.2, hu.2.2] at this
          exact this
        exact W.vret hx hb hr (fun t ht hW => ⟨⟨w1, rfl, ⟨by rw [hp]; exact eqN_tr w i _ _, by rw [hp]; have := NV_tr (w := w) (i := i) (n := sL w a) (f := f) (by omega); rw [e2] at this; exact this⟩, BW_of ht hP⟩, hS.F ht⟩) hS.2.2 d_Na_putDifference_92
      · exact absurd (nI_le (by omega) (by omega)) c20
    | succ n ih =>
      intro j f o H locs ls hj hinv hf ho hP hD hS hl
      refine lv_iload hx hb d_Na_putDifference_17 (lv_at hl 0 rfl) ?_
      refine lv_iload_n hx hb d_Na_putDifference_19 rfl (lv_at hl 3 rfl) ?_
      refine lv_icmp_ge (tgt := 87) hx hb d_Na_putDifference_20 (by decide) (fun c20 => ?_) (fun c20 => ?_)
      · exact absurd c20 (nI_ge (by omega) (by omega))
      · skip
        refine lv_lload hx hb d_Na_putDifference_23 (lv_at hl 1 rfl) ?_
        refine lv_aload_n hx hb d_Na_putDifference_25 rfl (lv_at hl 5 rfl) ?_
        refine nw_gW hx hb hts hown hKW.1 hP (i := a) (by omega) lf_Na_9 d_Na_putDifference_26 ?_
        refine lv_iload hx hb d_Na_putDifference_29 (lv_at hl 0 rfl) ?_
        refine nw_lW hx hb hKW.1 hP (i := a) (by omega) (j := j) (by omega) (x := sW w a j) (rdW hf (Nat.le_refl j)) d_Na_putDifference_31 ?_
        refine lv_i2l (v := (sW w a j).toInt64) hx hb d_Na_putDifference_32 rfl ?_
        refine lv_ldc2 (v := 4294967295) hx hb hown (hA_ hts ll_Na_33) d_Na_putDifference_33 ?_
        refine nw_land (v := lN (wN ((sW w a j)))) hx hb d_Na_putDifference_36 (lw_low _) ?_
        refine lv_iload hx hb d_Na_putDifference_37 (lv_at hl 0 rfl) ?_
        refine lv_iload hx hb d_Na_putDifference_39 (lv_at hl 2 rfl) ?_
        refine lv_icmp_ge (tgt := 59) hx hb d_Na_putDifference_41 (by decide) (fun c41 => ?_) (fun c41 => ?_)
        · skip
          have c41 : sL w b ≤ j := (nI_leI (by omega) (by omega)).mp c41
          have hS1 := wN_lt (sW w a j)
          have hS2 := wN_lt (sW w b j)
          refine lv_lconst (v := lN (0)) hx hb d_Na_putDifference_59 (by decide) ?_
          refine nw_lsub (v := lZ (((wN (sW w a j) : Nat) : Int) - ((0 : Nat) : Int))) hx hb d_Na_putDifference_60 lZ_pm ?_
          refine nw_ladd (v := lZ (o + (((wN (sW w a j) : Nat) : Int) - ((0 : Nat) : Int)))) hx hb d_Na_putDifference_61 (lZ_add _ _) ?_
          refine lv_lstore (lv' := [(5, .long (lZ (o + (((wN (sW w a j) : Nat) : Int) - ((0 : Nat) : Int))))), (7, .int (nI (j))), (4, .int (nI (sL w b))), (3, .int (nI (sL w a))), (0, .ref (ad (2 * i + 8))), (1, .ref (ad (2 * a + 8))), (2, .ref (ad (2 * b + 8)))]) hx hb d_Na_putDifference_62 hl (by decide) rfl (fun ls hl => ?_)
          refine lv_aload_n hx hb d_Na_putDifference_64 rfl (lv_at hl 4 rfl) ?_
          refine nw_gW hx hb hts hown hKW.1 hP (i := i) (by omega) lf_Na_9 d_Na_putDifference_65 ?_
          refine lv_iload hx hb d_Na_putDifference_68 (lv_at hl 1 rfl) ?_
          refine lv_lload hx hb d_Na_putDifference_70 (lv_at hl 0 rfl) ?_
          refine lv_l2i (v := (lZ (o + (((wN (sW w a j) : Nat) : Int) - ((0 : Nat) : Int)))).toInt32) hx hb d_Na_putDifference_72 rfl ?_
          refine nw_sW hx hb hKW.1 hP hD hS (i := i) (by omega) (j := j) (by omega) d_Na_putDifference_73 (fun H locs hP hD hS => ?_)
          refine lv_lload hx hb d_Na_putDifference_74 (lv_at hl 0 rfl) ?_
          refine lv_bipush (v := nI (32)) hx hb d_Na_putDifference_76 (by decide) ?_
          refine lv_lshr (v := lZ ((o + (((wN (sW w a j) : Nat) : Int) - ((0 : Nat) : Int))) / 4294967296)) hx hb d_Na_putDifference_78 (lZ_shr (by omega) (by omega)) ?_
          refine lv_lstore (lv' := [(5, .long (lZ ((o + (((wN (sW w a j) : Nat) : Int) - ((0 : Nat) : Int))) / 4294967296))), (7, .int (nI (j))), (4, .int (nI (sL w b))), (3, .int (nI (sL w a))), (0, .ref (ad (2 * i + 8))), (1, .ref (ad (2 * a + 8))), (2, .ref (ad (2 * b + 8)))]) hx hb d_Na_putDifference_79 hl (by decide) rfl (fun ls hl => ?_)
          refine lv_iinc (v := nI (j + 1)) (lv' := [(7, .int (nI (j + 1))), (5, .long (lZ ((o + (((wN (sW w a j) : Nat) : Int) - ((0 : Nat) : Int))) / 4294967296))), (4, .int (nI (sL w b))), (3, .int (nI (sL w a))), (0, .ref (ad (2 * i + 8))), (1, .ref (ad (2 * a + 8))), (2, .ref (ad (2 * b + 8)))]) hx hb d_Na_putDifference_81 hl (k := 1) rfl (nI_add _ 1) (by decide) rfl (fun ls hl => ?_)
          refine lv_goto (tgt := 17) hx hb d_Na_putDifference_84 (by decide) ?_
          rw [sW_pW, pW_pW] at hP hD
          exact ih (j + 1) (upd f j (lZ (o + (((wN (sW w a j) : Nat) : Int) - ((0 : Nat) : Int)))).toInt32) ((o + (((wN (sW w a j) : Nat) : Int) - ((0 : Nat) : Int))) / 4294967296) H locs ls (by omega) (sb_step (g := f) (h := f) (m := 0) hinv (sb_lt _ _) (sb_Mge c41)) (fun q hq => by rw [pk_un (by omega)]; exact hf q (by omega)) (by omega) hP hD hS (lv_sub hl [0, 1, 2, 3, 4, 5, 6] rfl)
        · skip
          have c41 : ¬ (sL w b ≤ j) := fun h => c41 ((nI_leI (by omega) (by omega)).mpr h)
          have hS1 := wN_lt (sW w a j)
          have hS2 := wN_lt (sW w b j)
          refine lv_aload_n hx hb d_Na_putDifference_44 rfl (lv_at hl 6 rfl) ?_
          refine nw_gW hx hb hts hown hKW.1 hP (i := b) (by omega) lf_Na_9 d_Na_putDifference_45 ?_
          refine lv_iload hx hb d_Na_putDifference_48 (lv_at hl 0 rfl) ?_
          refine nw_lW hx hb hKW.1 hP (i := b) (by omega) (j := j) (by omega) (x := sW w b j) (rdW hf (Nat.le_refl j)) d_Na_putDifference_50 ?_
          refine lv_i2l (v := (sW w b j).toInt64) hx hb d_Na_putDifference_51 rfl ?_
          refine lv_ldc2 (v := 4294967295) hx hb hown (hA_ hts ll_Na_33) d_Na_putDifference_52 ?_
          refine nw_land (v := lN (wN ((sW w b j)))) hx hb d_Na_putDifference_55 (lw_low _) ?_
          refine lv_goto (tgt := 60) hx hb d_Na_putDifference_56 (by decide) ?_
          refine nw_lsub (v := lZ (((wN (sW w a j) : Nat) : Int) - ((wN (sW w b j) : Nat) : Int))) hx hb d_Na_putDifference_60 lZ_pm ?_
          refine nw_ladd (v := lZ (o + (((wN (sW w a j) : Nat) : Int) - ((wN (sW w b j) : Nat) : Int)))) hx hb d_Na_putDifference_61 (lZ_add _ _) ?_
          refine lv_lstore (lv' := [(5, .long (lZ (o + (((wN (sW w a j) : Nat) : Int) - ((wN (sW w b j) : Nat) : Int))))), (7, .int (nI (j))), (4, .int (nI (sL w b))), (3, .int (nI (sL w a))), (0, .ref (ad (2 * i + 8))), (1, .ref (ad (2 * a + 8))), (2, .ref (ad (2 * b + 8)))]) hx hb d_Na_putDifference_62 hl (by decide) rfl (fun ls hl => ?_)
          refine lv_aload_n hx hb d_Na_putDifference_64 rfl (lv_at hl 4 rfl) ?_
          refine nw_gW hx hb hts hown hKW.1 hP (i := i) (by omega) lf_Na_9 d_Na_putDifference_65 ?_
          refine lv_iload hx hb d_Na_putDifference_68 (lv_at hl 1 rfl) ?_
          refine lv_lload hx hb d_Na_putDifference_70 (lv_at hl 0 rfl) ?_
          refine lv_l2i (v := (lZ (o + (((wN (sW w a j) : Nat) : Int) - ((wN (sW w b j) : Nat) : Int)))).toInt32) hx hb d_Na_putDifference_72 rfl ?_
          refine nw_sW hx hb hKW.1 hP hD hS (i := i) (by omega) (j := j) (by omega) d_Na_putDifference_73 (fun H locs hP hD hS => ?_)
          refine lv_lload hx hb d_Na_putDifference_74 (lv_at hl 0 rfl) ?_
          refine lv_bipush (v := nI (32)) hx hb d_Na_putDifference_76 (by decide) ?_
          refine lv_lshr (v := lZ ((o + (((wN (sW w a j) : Nat) : Int) - ((wN (sW w b j) : Nat) : Int))) / 4294967296)) hx hb d_Na_putDifference_78 (lZ_shr (by omega) (by omega)) ?_
          refine lv_lstore (lv' := [(5, .long (lZ ((o + (((wN (sW w a j) : Nat) : Int) - ((wN (sW w b j) : Nat) : Int))) / 4294967296))), (7, .int (nI (j))), (4, .int (nI (sL w b))), (3, .int (nI (sL w a))), (0, .ref (ad (2 * i + 8))), (1, .ref (ad (2 * a + 8))), (2, .ref (ad (2 * b + 8)))]) hx hb d_Na_putDifference_79 hl (by decide) rfl (fun ls hl => ?_)
          refine lv_iinc (v := nI (j + 1)) (lv' := [(7, .int (nI (j + 1))), (5, .long (lZ ((o + (((wN (sW w a j) : Nat) : Int) - ((wN (sW w b j) : Nat) : Int))) / 4294967296))), (4, .int (nI (sL w b))), (3, .int (nI (sL w a))), (0, .ref (ad (2 * i + 8))), (1, .ref (ad (2 * a + 8))), (2, .ref (ad (2 * b + 8)))]) hx hb d_Na_putDifference_81 hl (k := 1) rfl (nI_add _ 1) (by decide) rfl (fun ls hl => ?_)
          refine lv_goto (tgt := 17) hx hb d_Na_putDifference_84 (by decide) ?_
          rw [sW_pW, pW_pW] at hP hD
          exact ih (j + 1) (upd f j (lZ (o + (((wN (sW w a j) : Nat) : Int) - ((wN (sW w b j) : Nat) : Int)))).toInt32) ((o + (((wN (sW w a j) : Nat) : Int) - ((wN (sW w b j) : Nat) : Int))) / 4294967296) H locs ls (by omega) (sb_step (g := f) (h := f) (m := 0) hinv (sb_lt _ _) (sb_Mlt (Nat.not_le.mp c41))) (fun q hq => by rw [pk_un (by omega)]; exact hf q (by omega)) (by omega) hP hD hS (lv_sub hl [0, 1, 2, 3, 4, 5, 6] rfl)
  have e0 : pW w i (sW w i) = w := pW_self w i
  have hl : lv_has ls 8 [(7, .int (nI (0))), (5, .long (lZ (0))), (4, .int (nI (sL w b))), (3, .int (nI (sL w a))), (0, .ref (ad (2 * i + 8))), (1, .ref (ad (2 * a + 8))), (2, .ref (ad (2 * b + 8)))] := by have := (lv_sub (l' := [(7, .int (nI (0))), (5, .long (lN (0))), (4, .int (nI (sL w b))), (3, .int (nI (sL w a))), (0, .ref (ad (2 * i + 8))), (1, .ref (ad (2 * a + 8))), (2, .ref (ad (2 * b + 8)))]) hl [0, 1, 2, 3, 4, 5, 6] rfl); rw [lZ_0] at this; exact this
  exact loop (sL w a) 0 (sW w i) 0 _ _ ls (by omega) (by rw [vM_0]; rfl) (fun _ _ => rfl) (Or.inl rfl) (by rw [e0]; exact hP) (by rw [e0]; exact hD) hS hl
end
section
/-! PIECES for scale, reduce, takeOne -/
theorem wN_dec {x : Int32} (h : x ≠ 0) : wN (x - nI 1) + 1 = wN x := by
  have h0 : wN x ≠ 0 := fun q => h (wN_eq0.mp q)
  have h1 := wN_lt x
  rw [← nI_wN x, pk_sub (by omega), wN_nI, wN_nI]
  omega
theorem wN_dec0 : wN ((0 : Int32) - nI 1) = 4294967295 := by decide
theorem lN_c : ∀ k, k < 64 → ((nI k).toInt64 &&& 63) = lN k := by decide +kernel
theorem lN_sm : ∀ k, k < 64 → (BitVec.ofNat 64 k).smod 64 = BitVec.ofNat 64 k := by decide +kernel
theorem lN_tb (n : Nat) : (lN n).toBitVec = BitVec.ofNat 64 n := rfl
theorem lN_shl (n : Nat) {k : Nat} (hk : k < 64) : lN n <<< ((nI k).toInt64 &&& 63) = lN (n * 2 ^ k) := by
  rw [lN_c k hk]
  apply Int64.toBitVec_inj.mp
  rw [Int64.toBitVec_shiftLeft, lN_tb, lN_tb, lN_tb, lN_sm k hk]
  apply BitVec.eq_of_toNat_eq
  rw [BitVec.shiftLeft_eq', BitVec.toNat_shiftLeft, BitVec.toNat_ofNat, BitVec.toNat_ofNat, BitVec.toNat_ofNat, Nat.mod_eq_of_lt (show k < 2 ^ 64 by omega), Nat.shiftLeft_eq, Nat.mul_mod, Nat.mod_mod, ← Nat.mul_mod]
theorem lN_shl32 (n : Nat) : lN n <<< ((nI 32).toInt64 &&& 63) = lN (n * 4294967296) := lN_shl n (by decide)
theorem lN_or {a b : Nat} (ha : a < 2 ^ 64) (hb : b < 2 ^ 64) : lN a ||| lN b = lN (a ||| b) := by
  apply Int64.toBitVec_inj.mp
  rw [Int64.toBitVec_or, lN_tb, lN_tb, lN_tb]
  apply BitVec.eq_of_toNat_eq
  rw [BitVec.toNat_or, BitVec.toNat_ofNat, BitVec.toNat_ofNat, BitVec.toNat_ofNat, Nat.mod_eq_of_lt ha, Nat.mod_eq_of_lt hb, Nat.mod_eq_of_lt (Nat.or_lt_two_pow ha hb)]
theorem lN_join {h x : Nat} (hh : h < 4294967296) (hx : x < 4294967296) : lN (h * 4294967296) ||| lN x = lN (h * 4294967296 + x) := by
  rw [lN_or (by omega) (by omega), Nat.mul_comm h]
  exact congrArg lN (Nat.two_pow_add_eq_or_of_lt (i := 32) hx h).symm
theorem lN_ne0 {d : Nat} (h0 : 0 < d) (h : d < 2 ^ 63) : ¬ lN d = 0 := by
  intro q
  have := (pk_lEQ h (by decide : 0 < 2 ^ 63)).mp (q.trans (rfl : (0 : Int64) = lN 0))
  omega
/-- one step of a division by a word, from above -/
theorem rd_step {f g : Nat → Int32} {k n d r x : Nat} (hq : vN f (k + 1) n * d + r = vN g (k + 1) n) (hx : x = wN (g k)) (hd : 0 < d) (hs : (r * 4294967296 + x) / d < 4294967296) :
    vN (upd f k (nI ((r * 4294967296 + x) / d))) k (n + 1) * d + (r * 4294967296 + x - (r * 4294967296 + x) / d * d) = vN g k (n + 1) := by
  rw [vN_cons, vN_cons, pk_us, wN_nI, Nat.mod_eq_of_lt hs, vN_out (Or.inl (by omega)), ← hq, ← hx]
  have h1 : (r * 4294967296 + x) / d * d ≤ r * 4294967296 + x := Nat.div_mul_le_self _ _
  generalize (r * 4294967296 + x) / d = s at *
  generalize vN f (k + 1) n = q
  have e1 : (s + 4294967296 * q) * d = s * d + 4294967296 * (q * d) := by rw [Nat.add_mul, Nat.mul_assoc]
  rw [e1]
  generalize s * d = a at *
  generalize q * d = b
  omega
theorem rd_share {r x d : Nat} (hr : r < d) (hx : x < 4294967296) : (r * 4294967296 + x) / d < 4294967296 := by
  rw [Nat.div_lt_iff_lt_mul (by omega)]
  have : (r + 1) * 4294967296 ≤ d * 4294967296 := Nat.mul_le_mul_right _ hr
  rw [Nat.add_mul] at this
  rw [Nat.mul_comm 4294967296 d]
  omega
theorem rd_rest {p d : Nat} (hd : 0 < d) : p - p / d * d < d := by
  have h := Nat.div_add_mod p d
  have h2 := Nat.mod_lt p hd
  rw [Nat.mul_comm] at h
  omega
theorem rd_end {q d r v : Nat} (h : q * d + r = v) (hr : r < d) : q = v / d ∧ r = v % d := by
  subst h
  rw [Nat.mul_comm q d]
  constructor
  · rw [Nat.mul_add_div (by omega), Nat.div_eq_of_lt hr, Nat.add_zero]
  · rw [Nat.mul_add_mod, Nat.mod_eq_of_lt hr]
theorem sc_step {A x P φ μ : Nat} : A * φ + μ + x * φ * P = (A + x * P) * φ + μ := by
  rw [Nat.add_mul, Nat.mul_right_comm x P φ]
  omega
/-- the part above is as it was -/
theorem vN_tail {f g : Nat → Int32} {j n : Nat} (hj : j ≤ n) (h : ∀ q, j ≤ q → f q = g q) {a b : Nat} (he : vN f 0 j + a = vN g 0 j + b) : vN f 0 n + a = vN g 0 n + b := by
  obtain ⟨d, rfl⟩ : ∃ d, n = j + d := ⟨n - j, by omega⟩
  rw [vN_add f 0 j d, vN_add g 0 j d, vN_congr (f := f) (g := g) (a := 0 + j) (b := 0 + j) (n := d) (fun i hi => h _ (by omega))]
  omega
end
section
/-! NUMBERS: the contracts of Natural, 6: scale, reduce, takeOne (rows laid by wip/whole/gen/c_na6.py) -/
set_option maxHeartbeats 4000000 in
set_option maxRecDepth 100000 in
/-- scale(factor, more) -/
theorem c_Na_scale (l : Launch) {D : va_G} {cI cB cR : ClassId} {ad : Nat → Nat} (w : St) (sz : Nat) {i v φ μ : Nat} (hi : i < 14) (hv : NV w i v) (hφ : φ < 2 ^ 31) (hμ : μ < 2 ^ 31) (hla : sL w i ≤ 6271) : Met l y_Na_scale (q_Na_scale :: wA) { frames := 1, cells := 0, slots := 0, locals := 24 } (va_Pc [.ref (ad (2 * i + 8)), .int (nI (φ)), .int (nI (μ))] (PW D cI cB cR ad w sz)) (va_Qv (fun w1 : St => eqN w w1 i ∧ NV w1 i (v * φ + μ)) (BW D cI cB cR ad) (AA ad sz)) 0 0 (AA ad sz) := by
  refine Met.ofW (cc := b_Na_scale) (maxL := 6) (ret := none) (by decide) rfl ?_
  intro p e s m args below meth c s₁ B hml hv
  obtain ⟨rfl, hsz, hP, hD0, hKW⟩ := hv
  have hx := B.exec
  have hb := B.bytes
  have hr := B.returns
  have hts := atoms_spec (ws := q_Na_scale :: wA) B.pre
  have hown : s.vm.findClass R_Na = some m.cls := findClass_of_methodNamed B.named
  have hlocks := B.notSynchronized
  subst hsz
  have hD := NC_AA (sz := s.heap.size) hD0
  have hS : va_S (AA ad s.heap.size) s.heap s.heap [] := va_S.rf
  have hl := lv_entry ([.ref (ad (2 * i + 8)), .int (nI (φ)), .int (nI (μ))]) (n := 6) (Nat.le_of_ble_eq_true rfl)
  rw [lg_entry_eq]
  generalize (lg_sl ([.ref (ad (2 * i + 8)), .int (nI (φ)), .int (nI (μ))]) ++ List.replicate (6 - (lg_sl ([.ref (ad (2 * i + 8)), .int (nI (φ)), .int (nI (μ))])).length) Slot.unset).toArray = ls at hl ⊢
  have hl : lv_has ls 6 [(0, .ref (ad (2 * i + 8))), (1, .int (nI (φ))), (2, .int (nI (μ)))] := hl
  refine lv_iload_n hx hb d_Na_scale_0 rfl (lv_at hl 2 rfl) ?_
  refine lv_i2l (v := lN (μ)) hx hb d_Na_scale_1 (nI_l (by omega)) ?_
  refine lv_lstore_n (lv' := [(3, .long (lN (μ))), (0, .ref (ad (2 * i + 8))), (1, .int (nI (φ))), (2, .int (nI (μ)))]) hx hb d_Na_scale_2 rfl hl (by decide) rfl (fun ls hl => ?_)
  refine lv_iconst (v := nI (0)) hx hb d_Na_scale_3 (by decide) ?_
  refine lv_istore (lv' := [(5, .int (nI (0))), (3, .long (lN (μ))), (0, .ref (ad (2 * i + 8))), (1, .int (nI (φ))), (2, .int (nI (μ)))]) hx hb d_Na_scale_4 hl (by decide) rfl (fun ls hl => ?_)
  have loop : ∀ (n j : Nat) (f : Nat → Int32) (cy : Nat) (H : Heap) (locs : List Loc) (ls : Array Slot), j + n = sL w i → vN f 0 j + cy * 4294967296 ^ j = vN (sW w i) 0 j * φ + μ → (∀ q, j ≤ q → f q = sW w i q) → cy < 4294967296 → va_P D clA (NC cI cB cR ad (pW w i f)) H → va_D (AA ad s.heap.size) (NC cI cB cR ad (pW w i f)) → va_S (AA ad s.heap.size) s.heap H locs → lv_has ls 6 [(5, .int (nI (j))), (3, .long (lN (cy))), (0, .ref (ad (2 * i + 8))), (1, .int (nI (φ))), (2, .int (nI (μ)))] → W p l e (headSpec (q_Na_scale :: wA) { frames := 1, cells := 0, slots := 0, locals := 24 }).room s m ([.ref (ad (2 * i + 8)), .int (nI (φ)), .int (nI (μ))] : List Value).toArray below meth c H locs 0 0 (MQ below (va_Qv (fun w1 : St => eqN w w1 i ∧ NV w1 i (v * φ + μ)) (BW D cI cB cR ad) (AA ad s.heap.size)) ([.ref (ad (2 * i + 8)), .int (nI (φ)), .int (nI (μ))] : List Value).toArray s 0 0 (AA ad s.heap.size)) (F0 m 6 ls []) := by
    intro n
    induction n with
    | zero =>
      intro j f cy H locs ls hj hinv hf hc hP hD hS hl
      refine lv_iload hx hb d_Na_scale_6 (lv_at hl 0 rfl) ?_
      refine lv_aload_n hx hb d_Na_scale_8 rfl (lv_at hl 2 rfl) ?_
      refine nw_gL hx hb hts hown hKW.1 hP (i := i) (by omega) (n := sL w i) rfl lf_Na_15 d_Na_scale_9 ?_
      refine lv_icmp_ge (tgt := 53) hx hb d_Na_scale_12 (by decide) (fun c12 => ?_) (fun c12 => ?_)
      · skip
        have c12 : sL w i ≤ j := (nI_leI (by omega) (by omega)).mp c12
        have ej : j = sL w i := by omega
        subst ej
        refine lv_aload_n hx hb d_Na_scale_53 rfl (lv_at hl 2 rfl) ?_
        refine nw_gW hx hb hts hown hKW.1 hP (i := i) (by omega) lf_Na_9 d_Na_scale_54 ?_
        refine lv_aload_n hx hb d_Na_scale_57 rfl (lv_at hl 2 rfl) ?_
        refine nw_gL hx hb hts hown hKW.1 hP (i := i) (by omega) (n := sL w i) rfl lf_Na_15 d_Na_scale_58 ?_
        refine lv_lload_n hx hb d_Na_scale_61 rfl (lv_at hl 1 rfl) ?_
        refine lv_l2i (v := nI (cy)) hx hb d_Na_scale_62 (lN_i _) ?_
        refine nw_sW hx hb hKW.1 hP hD hS (i := i) (by omega) (j := sL w i) (by omega) d_Na_scale_63 (fun H locs hP hD hS => ?_)
        refine lv_aload_n hx hb d_Na_scale_64 rfl (lv_at hl 2 rfl) ?_
        refine lv_aload_n hx hb d_Na_scale_65 rfl (lv_at hl 2 rfl) ?_
        refine nw_gL hx hb hts hown hKW.1 hP (i := i) (by omega) (n := sL w i) rfl lf_Na_15 d_Na_scale_66 ?_
        refine lv_iconst (v := nI (1)) hx hb d_Na_scale_69 (by decide) ?_
        refine nw_iadd (v := nI (sL w i + 1)) hx hb d_Na_scale_70 (nI_add _ _) ?_
        refine wV_v (As := [.int (nI (sL w i + 1))]) (rest := []) (n := 1) ⟨hx, hb, hml, hown, hts⟩ (c_Na_trim l (pW (pW w i f) i (upd (sW (pW w i f) i) (sL w i) (nI (cy)))) _ (i := i) (n := sL w i + 1) hi (by omega)) (cwV0 1 hts lm_Na_23 im_Na_trim se_Na_trim in_Na kq_Na_trim rfl rfl rfl (by decide +kernel) ⟨Nat.le_of_ble_eq_true rfl, Nat.le_of_ble_eq_true rfl⟩) (recvN hKW.1 hP (i := i) (by omega)) hKW hP hD hS rfl hl.1 rfl (Nat.le_of_ble_eq_true rfl) d_Na_scale_71 ⟨Nat.zero_le _, Nat.zero_le _⟩ (fun w1 H locs hp hP hD hS => ?_)
        simp only [sW_pW, pW_pW] at hp
        have e2 : vN (upd f (sL w i) (nI cy)) 0 (sL w i + 1) = v * φ + μ := by rw [vN_suc0, pk_us, vN_out (Or.inr (by omega)), wN_nI, Nat.mod_eq_of_lt hc, hinv, hv.2.2]
        exact W.vret hx hb hr (fun t ht hW => ⟨⟨w1, rfl, ⟨by rw [hp]; exact eqN_tr w i _ _, by rw [hp]; have := NV_tr (w := w) (i := i) (n := sL w i + 1) (f := upd f (sL w i) (nI cy)) (by omega); rw [e2] at this; exact this⟩, BW_of ht hP⟩, hS.F ht⟩) hS.2.2 d_Na_scale_74
      · exact absurd (nI_le (by omega) (by omega)) c12
    | succ n ih =>
      intro j f cy H locs ls hj hinv hf hc hP hD hS hl
      refine lv_iload hx hb d_Na_scale_6 (lv_at hl 0 rfl) ?_
      refine lv_aload_n hx hb d_Na_scale_8 rfl (lv_at hl 2 rfl) ?_
      refine nw_gL hx hb hts hown hKW.1 hP (i := i) (by omega) (n := sL w i) rfl lf_Na_15 d_Na_scale_9 ?_
      refine lv_icmp_ge (tgt := 53) hx hb d_Na_scale_12 (by decide) (fun c12 => ?_) (fun c12 => ?_)
      · exact absurd c12 (nI_ge (by omega) (by omega))
      · skip
        have hx1 := wN_lt (sW w i j)
        have hx2 : wN (sW w i j) * φ ≤ 4294967295 * φ := Nat.mul_le_mul_right _ (by omega)
        refine lv_lload_n hx hb d_Na_scale_15 rfl (lv_at hl 1 rfl) ?_
        refine lv_aload_n hx hb d_Na_scale_16 rfl (lv_at hl 2 rfl) ?_
        refine nw_gW hx hb hts hown hKW.1 hP (i := i) (by omega) lf_Na_9 d_Na_scale_17 ?_
        refine lv_iload hx hb d_Na_scale_20 (lv_at hl 0 rfl) ?_
        refine nw_lW hx hb hKW.1 hP (i := i) (by omega) (j := j) (by omega) (x := sW w i j) (rdW hf (Nat.le_refl j)) d_Na_scale_22 ?_
        refine lv_i2l (v := (sW w i j).toInt64) hx hb d_Na_scale_23 rfl ?_
        refine lv_ldc2 (v := 4294967295) hx hb hown (hA_ hts ll_Na_33) d_Na_scale_24 ?_
        refine nw_land (v := lN (wN ((sW w i j)))) hx hb d_Na_scale_27 (lw_low _) ?_
        refine lv_iload_n hx hb d_Na_scale_28 rfl (lv_at hl 3 rfl) ?_
        refine lv_i2l (v := lN (φ)) hx hb d_Na_scale_29 (nI_l (by omega)) ?_
        refine nw_lmul (v := lN ((wN ((sW w i j))) * φ)) hx hb d_Na_scale_30 (lN_mul _ _) ?_
        refine nw_ladd (v := lN (cy + ((wN ((sW w i j))) * φ))) hx hb d_Na_scale_31 (lN_add _ _) ?_
        refine lv_lstore_n (lv' := [(3, .long (lN (cy + ((wN ((sW w i j))) * φ)))), (5, .int (nI (j))), (0, .ref (ad (2 * i + 8))), (1, .int (nI (φ))), (2, .int (nI (μ)))]) hx hb d_Na_scale_32 rfl hl (by decide) rfl (fun ls hl => ?_)
        refine lv_aload_n hx hb d_Na_scale_33 rfl (lv_at hl 2 rfl) ?_
        refine nw_gW hx hb hts hown hKW.1 hP (i := i) (by omega) lf_Na_9 d_Na_scale_34 ?_
        refine lv_iload hx hb d_Na_scale_37 (lv_at hl 1 rfl) ?_
        refine lv_lload_n hx hb d_Na_scale_39 rfl (lv_at hl 0 rfl) ?_
        refine lv_l2i (v := nI (cy + ((wN ((sW w i j))) * φ))) hx hb d_Na_scale_40 (lN_i _) ?_
        refine nw_sW hx hb hKW.1 hP hD hS (i := i) (by omega) (j := j) (by omega) d_Na_scale_41 (fun H locs hP hD hS => ?_)
        refine lv_lload_n hx hb d_Na_scale_42 rfl (lv_at hl 0 rfl) ?_
        refine lv_bipush (v := nI (32)) hx hb d_Na_scale_43 (by decide) ?_
        refine lv_lushr (v := lN ((cy + ((wN ((sW w i j))) * φ)) / 4294967296)) hx hb d_Na_scale_45 (lN_shr32 (by omega)) ?_
        refine lv_lstore_n (lv' := [(3, .long (lN ((cy + ((wN ((sW w i j))) * φ)) / 4294967296))), (5, .int (nI (j))), (0, .ref (ad (2 * i + 8))), (1, .int (nI (φ))), (2, .int (nI (μ)))]) hx hb d_Na_scale_46 rfl hl (by decide) rfl (fun ls hl => ?_)
        refine lv_iinc (v := nI (j + 1)) (lv' := [(5, .int (nI (j + 1))), (3, .long (lN ((cy + ((wN ((sW w i j))) * φ)) / 4294967296))), (0, .ref (ad (2 * i + 8))), (1, .int (nI (φ))), (2, .int (nI (μ)))]) hx hb d_Na_scale_47 hl (k := 1) rfl (nI_add _ 1) (by decide) rfl (fun ls hl => ?_)
        refine lv_goto (tgt := 6) hx hb d_Na_scale_50 (by decide) ?_
        rw [sW_pW, pW_pW] at hP hD
        exact ih (j + 1) (upd f j (nI (cy + wN (sW w i j) * φ))) ((cy + wN (sW w i j) * φ) / 4294967296) H locs ls (by omega) (by rw [ch_add0 hinv, vN_suc0]; exact sc_step) (fun q hq => by rw [pk_un (by omega)]; exact hf q (by omega)) (by omega) hP hD hS (lv_sub hl [0, 1, 2, 3, 4] rfl)
  have e0 : pW w i (sW w i) = w := pW_self w i
  exact loop (sL w i) 0 (sW w i) μ _ _ ls (by omega) (by show 0 + μ * 4294967296 ^ 0 = 0 * φ + μ; omega) (fun _ _ => rfl) (by omega) (by rw [e0]; exact hP) (by rw [e0]; exact hD) hS (lv_sub hl [0, 1, 2, 3, 4] rfl)
set_option maxHeartbeats 4000000 in
set_option maxRecDepth 100000 in
/-- reduce(divisor) -/
theorem c_Na_reduce (l : Launch) {D : va_G} {cI cB cR : ClassId} {ad : Nat → Nat} (w : St) (sz : Nat) {i v δ : Nat} (hi : i < 14) (hv : NV w i v) (h0 : 0 < δ) (hδ : δ < 2 ^ 31) : Met l y_Na_reduce (q_Na_reduce :: wA) { frames := 1, cells := 0, slots := 0, locals := 24 } (va_Pc [.ref (ad (2 * i + 8)), .int (nI (δ))] (PW D cI cB cR ad w sz)) (va_Qi (fun (r : Int32) (w1 : St) => r = nI (v % δ) ∧ eqN w w1 i ∧ NV w1 i (v / δ)) (BW D cI cB cR ad) (AA ad sz)) 0 0 (AA ad sz) := by
  refine Met.ofW (cc := b_Na_reduce) (maxL := 10) (ret := (some (.int))) (by decide) rfl ?_
  intro p e s m args below meth c s₁ B hml hv
  obtain ⟨rfl, hsz, hP, hD0, hKW⟩ := hv
  have hx := B.exec
  have hb := B.bytes
  have hr := B.returns
  have hts := atoms_spec (ws := q_Na_reduce :: wA) B.pre
  have hown : s.vm.findClass R_Na = some m.cls := findClass_of_methodNamed B.named
  have hlocks := B.notSynchronized
  subst hsz
  have hD := NC_AA (sz := s.heap.size) hD0
  have hS : va_S (AA ad s.heap.size) s.heap s.heap [] := va_S.rf
  have hl := lv_entry ([.ref (ad (2 * i + 8)), .int (nI (δ))]) (n := 10) (Nat.le_of_ble_eq_true rfl)
  rw [lg_entry_eq]
  generalize (lg_sl ([.ref (ad (2 * i + 8)), .int (nI (δ))]) ++ List.replicate (10 - (lg_sl ([.ref (ad (2 * i + 8)), .int (nI (δ))])).length) Slot.unset).toArray = ls at hl ⊢
  have hl : lv_has ls 10 [(0, .ref (ad (2 * i + 8))), (1, .int (nI (δ)))] := hl
  have hla := hv.len
  refine lv_aload_n hx hb d_Na_reduce_0 rfl (lv_at hl 0 rfl) ?_
  refine nw_gW hx hb hts hown hKW.1 hP (i := i) (by omega) lf_Na_9 d_Na_reduce_1 ?_
  refine lv_astore_n (lv' := [(2, .ref (ad (2 * i + 9))), (0, .ref (ad (2 * i + 8))), (1, .int (nI (δ)))]) hx hb d_Na_reduce_4 rfl hl (by decide) rfl (fun ls hl => ?_)
  refine lv_lconst (v := lN (0)) hx hb d_Na_reduce_5 (by decide) ?_
  refine lv_lstore_n (lv' := [(3, .long (lN (0))), (2, .ref (ad (2 * i + 9))), (0, .ref (ad (2 * i + 8))), (1, .int (nI (δ)))]) hx hb d_Na_reduce_6 rfl hl (by decide) rfl (fun ls hl => ?_)
  refine lv_aload_n hx hb d_Na_reduce_7 rfl (lv_at hl 2 rfl) ?_
  refine nw_gL hx hb hts hown hKW.1 hP (i := i) (by omega) (n := sL (w) i) rfl lf_Na_15 d_Na_reduce_8 ?_
  refine lv_iconst (v := nI (1)) hx hb d_Na_reduce_11 (by decide) ?_
  refine nw_isub (v := dn (sL w i)) hx hb d_Na_reduce_12 (dn_sub _) ?_
  refine lv_istore (lv' := [(5, .int (dn (sL w i))), (3, .long (lN (0))), (2, .ref (ad (2 * i + 9))), (0, .ref (ad (2 * i + 8))), (1, .int (nI (δ)))]) hx hb d_Na_reduce_13 hl (by decide) rfl (fun ls hl => ?_)
  have loop : ∀ (k : Nat) (f : Nat → Int32) (r n : Nat) (H : Heap) (locs : List Loc) (ls : Array Slot), k + n = sL w i → vN f k n * δ + r = vN (sW w i) k n → (∀ q, q < k → f q = sW w i q) → r < δ → va_P D clA (NC cI cB cR ad (pW w i f)) H → va_D (AA ad s.heap.size) (NC cI cB cR ad (pW w i f)) → va_S (AA ad s.heap.size) s.heap H locs → lv_has ls 10 [(5, .int (dn k)), (3, .long (lN (r))), (2, .ref (ad (2 * i + 9))), (0, .ref (ad (2 * i + 8))), (1, .int (nI (δ)))] → W p l e (headSpec (q_Na_reduce :: wA) { frames := 1, cells := 0, slots := 0, locals := 24 }).room s m ([.ref (ad (2 * i + 8)), .int (nI (δ))] : List Value).toArray below meth c H locs 0 0 (MQ below (va_Qi (fun (r : Int32) (w1 : St) => r = nI (v % δ) ∧ eqN w w1 i ∧ NV w1 i (v / δ)) (BW D cI cB cR ad) (AA ad s.heap.size)) ([.ref (ad (2 * i + 8)), .int (nI (δ))] : List Value).toArray s 0 0 (AA ad s.heap.size)) (F0 m 15 ls []) := by
    intro k
    induction k with
    | zero =>
      intro f r n H locs ls hj hinv hf hr2 hP hD hS hl
      refine lv_iload hx hb d_Na_reduce_15 (lv_at hl 0 rfl) ?_
      refine lv_if_lt (tgt := 65) hx hb d_Na_reduce_17 (by decide) (fun c17 => ?_) (fun c17 => ?_)
      · skip
        have ej : n = sL w i := by omega
        subst ej
        refine lv_aload_n hx hb d_Na_reduce_65 rfl (lv_at hl 3 rfl) ?_
        refine lv_aload_n hx hb d_Na_reduce_66 rfl (lv_at hl 3 rfl) ?_
        refine nw_gL hx hb hts hown hKW.1 hP (i := i) (by omega) (n := sL w i) rfl lf_Na_15 d_Na_reduce_67 ?_
        refine wV_v (As := [.int (nI (sL w i))]) (rest := []) (n := 1) ⟨hx, hb, hml, hown, hts⟩ (c_Na_trim l (pW w i f) _ (i := i) (n := sL w i) hi (by omega)) (cwV0 1 hts lm_Na_23 im_Na_trim se_Na_trim in_Na kq_Na_trim rfl rfl rfl (by decide +kernel) ⟨Nat.le_of_ble_eq_true rfl, Nat.le_of_ble_eq_true rfl⟩) (recvN hKW.1 hP (i := i) (by omega)) hKW hP hD hS rfl hl.1 rfl (Nat.le_of_ble_eq_true rfl) d_Na_reduce_70 ⟨Nat.zero_le _, Nat.zero_le _⟩ (fun w1 H locs hp hP hD hS => ?_)
        simp only [sW_pW, pW_pW] at hp
        rw [hv.2.2] at hinv
        obtain ⟨e2, e3⟩ := rd_end hinv hr2
        refine lv_lload_n hx hb d_Na_reduce_73 rfl (lv_at hl 1 rfl) ?_
        refine lv_l2i (v := nI (r)) hx hb d_Na_reduce_74 (lN_i _) ?_
        exact W.iret (v := nI (r)) hx hb hr (fun t ht hW => ⟨⟨_, w1, rfl, ⟨by rw [e3], by rw [hp]; exact eqN_tr w i _ _, by rw [hp]; have := NV_tr (w := w) (i := i) (n := sL w i) (f := f) (by omega); rw [e2] at this; exact this⟩, BW_of ht hP⟩, hS.F ht⟩) hS.2.2 d_Na_reduce_75
      · exact absurd dn_0 c17
    | succ k ih =>
      intro f r n H locs ls hj hinv hf hr2 hP hD hS hl
      have hx1 := wN_lt (sW w i k)
      refine lv_iload hx hb d_Na_reduce_15 (lv_at hl 0 rfl) ?_
      refine lv_if_lt (tgt := 65) hx hb d_Na_reduce_17 (by decide) (fun c17 => ?_) (fun c17 => ?_)
      · exact absurd c17 (nI_pos (by omega))
      · skip
        refine lv_lload_n hx hb d_Na_reduce_20 rfl (lv_at hl 1 rfl) ?_
        refine lv_bipush (v := nI (32)) hx hb d_Na_reduce_21 (by decide) ?_
        refine lv_lshl (v := lN (r * 4294967296)) hx hb d_Na_reduce_23 (lN_shl32 _) ?_
        refine lv_aload_n hx hb d_Na_reduce_24 rfl (lv_at hl 2 rfl) ?_
        refine lv_iload hx hb d_Na_reduce_25 (lv_at hl 0 rfl) ?_
        refine nw_lW hx hb hKW.1 hP (i := i) (by omega) (j := k) (by omega) (x := sW w i k) (by rw [sW_pW]; exact hf k (by omega)) d_Na_reduce_27 ?_
        refine lv_i2l (v := (sW w i k).toInt64) hx hb d_Na_reduce_28 rfl ?_
        refine lv_ldc2 (v := 4294967295) hx hb hown (hA_ hts ll_Na_33) d_Na_reduce_29 ?_
        refine nw_land (v := lN (wN ((sW w i k)))) hx hb d_Na_reduce_32 (lw_low _) ?_
        refine nw_lor (v := lN (r * 4294967296 + wN (sW w i k))) hx hb d_Na_reduce_33 (lN_join (by omega) (wN_lt _)) ?_
        refine lv_lstore (lv' := [(6, .long (lN (r * 4294967296 + wN (sW w i k)))), (5, .int (nI (k))), (3, .long (lN (r))), (2, .ref (ad (2 * i + 9))), (0, .ref (ad (2 * i + 8))), (1, .int (nI (δ)))]) hx hb d_Na_reduce_34 hl (by decide) rfl (fun ls hl => ?_)
        refine lv_lload hx hb d_Na_reduce_36 (lv_at hl 0 rfl) ?_
        refine lv_iload_n hx hb d_Na_reduce_38 rfl (lv_at hl 5 rfl) ?_
        refine lv_i2l (v := lN (δ)) hx hb d_Na_reduce_39 (nI_l (by omega)) ?_
        refine nw_ldiv (v := lN ((r * 4294967296 + wN (sW w i k)) / δ)) hx hb d_Na_reduce_40 (lN_ne0 (by omega) (by omega)) (pk_lDiv (by omega) (by omega) (by omega)) ?_
        refine lv_lstore (lv' := [(8, .long (lN ((r * 4294967296 + wN (sW w i k)) / δ))), (6, .long (lN (r * 4294967296 + wN (sW w i k)))), (5, .int (nI (k))), (3, .long (lN (r))), (2, .ref (ad (2 * i + 9))), (0, .ref (ad (2 * i + 8))), (1, .int (nI (δ)))]) hx hb d_Na_reduce_41 hl (by decide) rfl (fun ls hl => ?_)
        refine lv_aload_n hx hb d_Na_reduce_43 rfl (lv_at hl 4 rfl) ?_
        refine lv_iload hx hb d_Na_reduce_44 (lv_at hl 2 rfl) ?_
        refine lv_lload hx hb d_Na_reduce_46 (lv_at hl 0 rfl) ?_
        refine lv_l2i (v := nI ((r * 4294967296 + wN (sW w i k)) / δ)) hx hb d_Na_reduce_48 (lN_i _) ?_
        refine nw_sW hx hb hKW.1 hP hD hS (i := i) (by omega) (j := k) (by omega) d_Na_reduce_49 (fun H locs hP hD hS => ?_)
        refine lv_lload hx hb d_Na_reduce_50 (lv_at hl 1 rfl) ?_
        refine lv_lload hx hb d_Na_reduce_52 (lv_at hl 0 rfl) ?_
        refine lv_iload_n hx hb d_Na_reduce_54 rfl (lv_at hl 6 rfl) ?_
        refine lv_i2l (v := lN (δ)) hx hb d_Na_reduce_55 (nI_l (by omega)) ?_
        refine nw_lmul (v := lN (((r * 4294967296 + wN (sW w i k)) / δ) * δ)) hx hb d_Na_reduce_56 (lN_mul _ _) ?_
        refine nw_lsub (v := lN (r * 4294967296 + wN (sW w i k) - (r * 4294967296 + wN (sW w i k)) / δ * δ)) hx hb d_Na_reduce_57 (lN_sub (Nat.div_mul_le_self _ _)) ?_
        refine lv_lstore_n (lv' := [(3, .long (lN (r * 4294967296 + wN (sW w i k) - (r * 4294967296 + wN (sW w i k)) / δ * δ))), (8, .long (lN ((r * 4294967296 + wN (sW w i k)) / δ))), (6, .long (lN (r * 4294967296 + wN (sW w i k)))), (5, .int (nI (k))), (2, .ref (ad (2 * i + 9))), (0, .ref (ad (2 * i + 8))), (1, .int (nI (δ)))]) hx hb d_Na_reduce_58 rfl hl (by decide) rfl (fun ls hl => ?_)
        refine lv_iinc (v := dn k) (lv' := [(5, .int (dn k)), (3, .long (lN (r * 4294967296 + wN (sW w i k) - (r * 4294967296 + wN (sW w i k)) / δ * δ))), (8, .long (lN ((r * 4294967296 + wN (sW w i k)) / δ))), (6, .long (lN (r * 4294967296 + wN (sW w i k)))), (2, .ref (ad (2 * i + 9))), (0, .ref (ad (2 * i + 8))), (1, .int (nI (δ)))]) hx hb d_Na_reduce_59 hl (k := 3) rfl (dn_dec k) (by decide) rfl (fun ls hl => ?_)
        refine lv_goto (tgt := 15) hx hb d_Na_reduce_62 (by decide) ?_
        rw [sW_pW, pW_pW] at hP hD
        exact ih (upd f k (nI ((r * 4294967296 + wN (sW w i k)) / δ))) (r * 4294967296 + wN (sW w i k) - (r * 4294967296 + wN (sW w i k)) / δ * δ) (n + 1) H locs ls (by omega) (rd_step hinv rfl h0 (rd_share hr2 hx1)) (fun q hq => by rw [pk_un (by omega)]; exact hf q (by omega)) (rd_rest h0) hP hD hS (lv_sub hl [0, 1, 4, 5, 6] rfl)
  have e0 : pW w i (sW w i) = w := pW_self w i
  exact loop (sL w i) (sW w i) 0 0 _ _ ls (by omega) (by show 0 * δ + 0 = 0; omega) (fun _ _ => rfl) h0 (by rw [e0]; exact hP) (by rw [e0]; exact hD) hS (lv_sub hl [0, 1, 2, 3, 4] rfl)
set_option maxHeartbeats 4000000 in
set_option maxRecDepth 100000 in
/-- takeOne() -/
theorem c_Na_takeOne (l : Launch) {D : va_G} {cI cB cR : ClassId} {ad : Nat → Nat} (w : St) (sz : Nat) {i v : Nat} (hi : i < 14) (hv : NV w i v) (h0 : 0 < v) : Met l y_Na_takeOne (q_Na_takeOne :: wA) { frames := 1, cells := 0, slots := 0, locals := 24 } (va_Pc [.ref (ad (2 * i + 8))] (PW D cI cB cR ad w sz)) (va_Qv (fun w1 : St => eqN w w1 i ∧ NV w1 i (v - 1)) (BW D cI cB cR ad) (AA ad sz)) 0 0 (AA ad sz) := by
  refine Met.ofW (cc := b_Na_takeOne) (maxL := 3) (ret := none) (by decide) rfl ?_
  intro p e s m args below meth c s₁ B hml hv
  obtain ⟨rfl, hsz, hP, hD0, hKW⟩ := hv
  have hx := B.exec
  have hb := B.bytes
  have hr := B.returns
  have hts := atoms_spec (ws := q_Na_takeOne :: wA) B.pre
  have hown : s.vm.findClass R_Na = some m.cls := findClass_of_methodNamed B.named
  have hlocks := B.notSynchronized
  subst hsz
  have hD := NC_AA (sz := s.heap.size) hD0
  have hS : va_S (AA ad s.heap.size) s.heap s.heap [] := va_S.rf
  have hl := lv_entry ([.ref (ad (2 * i + 8))]) (n := 3) (Nat.le_of_ble_eq_true rfl)
  rw [lg_entry_eq]
  generalize (lg_sl ([.ref (ad (2 * i + 8))]) ++ List.replicate (3 - (lg_sl ([.ref (ad (2 * i + 8))])).length) Slot.unset).toArray = ls at hl ⊢
  have hl : lv_has ls 3 [(0, .ref (ad (2 * i + 8)))] := hl
  have hla := hv.len
  refine lv_iconst (v := nI (1)) hx hb d_Na_takeOne_0 (by decide) ?_
  refine lv_istore_n (lv' := [(1, .int (nI (1))), (0, .ref (ad (2 * i + 8)))]) hx hb d_Na_takeOne_1 rfl hl (by decide) rfl (fun ls hl => ?_)
  refine lv_iconst (v := nI (0)) hx hb d_Na_takeOne_2 (by decide) ?_
  refine lv_istore_n (lv' := [(2, .int (nI (0))), (1, .int (nI (1))), (0, .ref (ad (2 * i + 8)))]) hx hb d_Na_takeOne_3 rfl hl (by decide) rfl (fun ls hl => ?_)
  have loop : ∀ (n j : Nat) (f : Nat → Int32) (o : Nat) (H : Heap) (locs : List Loc) (ls : Array Slot), j + n = sL w i → vN f 0 j + 1 = vN (sW w i) 0 j + o * 4294967296 ^ j → (∀ q, j ≤ q → f q = sW w i q) → o ≤ 1 → va_P D clA (NC cI cB cR ad (pW w i f)) H → va_D (AA ad s.heap.size) (NC cI cB cR ad (pW w i f)) → va_S (AA ad s.heap.size) s.heap H locs → lv_has ls 3 [(2, .int (nI (j))), (1, .int (nI (o))), (0, .ref (ad (2 * i + 8)))] → W p l e (headSpec (q_Na_takeOne :: wA) { frames := 1, cells := 0, slots := 0, locals := 24 }).room s m ([.ref (ad (2 * i + 8))] : List Value).toArray below meth c H locs 0 0 (MQ below (va_Qv (fun w1 : St => eqN w w1 i ∧ NV w1 i (v - 1)) (BW D cI cB cR ad) (AA ad s.heap.size)) ([.ref (ad (2 * i + 8))] : List Value).toArray s 0 0 (AA ad s.heap.size)) (F0 m 4 ls []) := by
    intro n
    induction n with
    | zero =>
      intro j f o H locs ls hj hinv hf ho hP hD hS hl
      refine lv_iload_n hx hb d_Na_takeOne_4 rfl (lv_at hl 0 rfl) ?_
      refine lv_aload_n hx hb d_Na_takeOne_5 rfl (lv_at hl 2 rfl) ?_
      refine nw_gL hx hb hts hown hKW.1 hP (i := i) (by omega) (n := sL w i) rfl lf_Na_15 d_Na_takeOne_6 ?_
      refine lv_icmp_ge (tgt := 47) hx hb d_Na_takeOne_9 (by decide) (fun c9 => ?_) (fun c9 => ?_)
      · skip
        have c9 : sL w i ≤ j := (nI_leI (by omega) (by omega)).mp c9
        have ej : j = sL w i := by omega
        subst ej
        have hlt := vN_lt f 0 (sL w i)
        rw [hv.2.2] at hinv
        have ho0 : o = 0 := by
          rcases Nat.eq_zero_or_pos o with q | q
          · exact q
          · have h1 : o = 1 := by omega
            rw [h1] at hinv
            omega
        have hinv : vN f 0 (sL w i) + 1 = v := by rw [hinv, ho0]; omega
        refine lv_aload_n hx hb d_Na_takeOne_47 rfl (lv_at hl 2 rfl) ?_
        refine lv_aload_n hx hb d_Na_takeOne_48 rfl (lv_at hl 2 rfl) ?_
        refine nw_gL hx hb hts hown hKW.1 hP (i := i) (by omega) (n := sL w i) rfl lf_Na_15 d_Na_takeOne_49 ?_
        refine wV_v (As := [.int (nI (sL w i))]) (rest := []) (n := 1) ⟨hx, hb, hml, hown, hts⟩ (c_Na_trim l (pW w i f) _ (i := i) (n := sL w i) hi (by omega)) (cwV0 1 hts lm_Na_23 im_Na_trim se_Na_trim in_Na kq_Na_trim rfl rfl rfl (by decide +kernel) ⟨Nat.le_of_ble_eq_true rfl, Nat.le_of_ble_eq_true rfl⟩) (recvN hKW.1 hP (i := i) (by omega)) hKW hP hD hS rfl hl.1 rfl (Nat.le_of_ble_eq_true rfl) d_Na_takeOne_52 ⟨Nat.zero_le _, Nat.zero_le _⟩ (fun w1 H locs hp hP hD hS => ?_)
        simp only [sW_pW, pW_pW] at hp
        exact W.vret hx hb hr (fun t ht hW => ⟨⟨w1, rfl, ⟨by rw [hp]; exact eqN_tr w i _ _, by rw [hp]; have := NV_tr (w := w) (i := i) (n := sL w i) (f := f) (by omega); rw [show vN f 0 (sL w i) = v - 1 by omega] at this; exact this⟩, BW_of ht hP⟩, hS.F ht⟩) hS.2.2 d_Na_takeOne_55
      · exact absurd (nI_le (by omega) (by omega)) c9
    | succ n ih =>
      intro j f o H locs ls hj hinv hf ho hP hD hS hl
      refine lv_iload_n hx hb d_Na_takeOne_4 rfl (lv_at hl 0 rfl) ?_
      refine lv_aload_n hx hb d_Na_takeOne_5 rfl (lv_at hl 2 rfl) ?_
      refine nw_gL hx hb hts hown hKW.1 hP (i := i) (by omega) (n := sL w i) rfl lf_Na_15 d_Na_takeOne_6 ?_
      refine lv_icmp_ge (tgt := 47) hx hb d_Na_takeOne_9 (by decide) (fun c9 => ?_) (fun c9 => ?_)
      · exact absurd c9 (nI_ge (by omega) (by omega))
      · skip
        refine lv_iload_n hx hb d_Na_takeOne_12 rfl (lv_at hl 1 rfl) ?_
        refine lv_if_eq (tgt := 47) hx hb d_Na_takeOne_13 (by decide) (fun c13 => ?_) (fun c13 => ?_)
        · skip
          have c13 : o = 0 := (nI_eq (by omega) (by omega)).mp (by rw [nI_0]; exact c13)
          have hinv : vN f 0 (sL w i) + 1 = v := by
            have := vN_tail (n := sL w i) (by omega) hf (a := 1) (b := 0) (by rw [hinv, c13]; omega)
            rw [this, hv.2.2]; rfl
          refine lv_aload_n hx hb d_Na_takeOne_47 rfl (lv_at hl 2 rfl) ?_
          refine lv_aload_n hx hb d_Na_takeOne_48 rfl (lv_at hl 2 rfl) ?_
          refine nw_gL hx hb hts hown hKW.1 hP (i := i) (by omega) (n := sL w i) rfl lf_Na_15 d_Na_takeOne_49 ?_
          refine wV_v (As := [.int (nI (sL w i))]) (rest := []) (n := 1) ⟨hx, hb, hml, hown, hts⟩ (c_Na_trim l (pW w i f) _ (i := i) (n := sL w i) hi (by omega)) (cwV0 1 hts lm_Na_23 im_Na_trim se_Na_trim in_Na kq_Na_trim rfl rfl rfl (by decide +kernel) ⟨Nat.le_of_ble_eq_true rfl, Nat.le_of_ble_eq_true rfl⟩) (recvN hKW.1 hP (i := i) (by omega)) hKW hP hD hS rfl hl.1 rfl (Nat.le_of_ble_eq_true rfl) d_Na_takeOne_52 ⟨Nat.zero_le _, Nat.zero_le _⟩ (fun w1 H locs hp hP hD hS => ?_)
          simp only [sW_pW, pW_pW] at hp
          exact W.vret hx hb hr (fun t ht hW => ⟨⟨w1, rfl, ⟨by rw [hp]; exact eqN_tr w i _ _, by rw [hp]; have := NV_tr (w := w) (i := i) (n := sL w i) (f := f) (by omega); rw [show vN f 0 (sL w i) = v - 1 by omega] at this; exact this⟩, BW_of ht hP⟩, hS.F ht⟩) hS.2.2 d_Na_takeOne_55
        · skip
          have c13 : ¬ (o = 0) := fun h => c13 (by have := (nI_eq (by omega) (by omega)).mpr h; rwa [nI_0] at this)
          have ho1 : o = 1 := by omega
          subst ho1
          refine lv_aload_n hx hb d_Na_takeOne_16 rfl (lv_at hl 2 rfl) ?_
          refine nw_gW hx hb hts hown hKW.1 hP (i := i) (by omega) lf_Na_9 d_Na_takeOne_17 ?_
          refine lv_iload_n hx hb d_Na_takeOne_20 rfl (lv_at hl 0 rfl) ?_
          refine nw_lW hx hb hKW.1 hP (i := i) (by omega) (j := j) (by omega) (x := sW w i j) (rdW hf (Nat.le_refl j)) d_Na_takeOne_21 ?_
          refine lv_if_ne (tgt := 29) hx hb d_Na_takeOne_22 (by decide) (fun c22 => ?_) (fun c22 => ?_)
          · skip
            refine lv_iconst (v := nI (0)) hx hb d_Na_takeOne_29 (by decide) ?_
            refine lv_istore_n (lv' := [(1, .int (nI (0))), (2, .int (nI (j))), (0, .ref (ad (2 * i + 8)))]) hx hb d_Na_takeOne_30 rfl hl (by decide) rfl (fun ls hl => ?_)
            refine lv_aload_n hx hb d_Na_takeOne_31 rfl (lv_at hl 2 rfl) ?_
            refine nw_gW hx hb hts hown hKW.1 hP (i := i) (by omega) lf_Na_9 d_Na_takeOne_32 ?_
            refine lv_iload_n hx hb d_Na_takeOne_35 rfl (lv_at hl 1 rfl) ?_
            refine lv_dup2_11 hx hb d_Na_takeOne_36 rfl rfl ?_
            refine nw_lW hx hb hKW.1 hP (i := i) (by omega) (j := j) (by omega) (x := sW w i j) (rdW hf (Nat.le_refl j)) d_Na_takeOne_37 ?_
            refine lv_iconst (v := nI (1)) hx hb d_Na_takeOne_38 (by decide) ?_
            refine nw_isub (v := (sW w i j) - (nI (1))) hx hb d_Na_takeOne_39 rfl ?_
            refine nw_sW hx hb hKW.1 hP hD hS (i := i) (by omega) (j := j) (by omega) d_Na_takeOne_40 (fun H locs hP hD hS => ?_)
            refine lv_iinc (v := nI (j + 1)) (lv' := [(2, .int (nI (j + 1))), (1, .int (nI (0))), (0, .ref (ad (2 * i + 8)))]) hx hb d_Na_takeOne_41 hl (k := 1) rfl (nI_add _ 1) (by decide) rfl (fun ls hl => ?_)
            refine lv_goto (tgt := 4) hx hb d_Na_takeOne_44 (by decide) ?_
            rw [sW_pW, pW_pW] at hP hD
            exact ih (j + 1) (upd f j (sW w i j - nI 1)) 0 H locs ls (by omega) (by rw [vN_suc0, pk_us, vN_out (Or.inr (by omega)), vN_suc0]; have h7 := wN_dec c22; generalize wN (sW w i j - nI 1) = z at h7 ⊢; rw [← h7, Nat.add_mul]; omega) (fun q hq => by rw [pk_un (by omega)]; exact hf q (by omega)) (by omega) hP hD hS (lv_sub hl [0, 1, 2] rfl)
          · skip
            refine lv_iconst (v := nI (1)) hx hb d_Na_takeOne_25 (by decide) ?_
            refine lv_goto (tgt := 30) hx hb d_Na_takeOne_26 (by decide) ?_
            refine lv_istore_n (lv' := [(1, .int (nI (1))), (2, .int (nI (j))), (0, .ref (ad (2 * i + 8)))]) hx hb d_Na_takeOne_30 rfl hl (by decide) rfl (fun ls hl => ?_)
            refine lv_aload_n hx hb d_Na_takeOne_31 rfl (lv_at hl 2 rfl) ?_
            refine nw_gW hx hb hts hown hKW.1 hP (i := i) (by omega) lf_Na_9 d_Na_takeOne_32 ?_
            refine lv_iload_n hx hb d_Na_takeOne_35 rfl (lv_at hl 1 rfl) ?_
            refine lv_dup2_11 hx hb d_Na_takeOne_36 rfl rfl ?_
            refine nw_lW hx hb hKW.1 hP (i := i) (by omega) (j := j) (by omega) (x := sW w i j) (rdW hf (Nat.le_refl j)) d_Na_takeOne_37 ?_
            refine lv_iconst (v := nI (1)) hx hb d_Na_takeOne_38 (by decide) ?_
            refine nw_isub (v := (sW w i j) - (nI (1))) hx hb d_Na_takeOne_39 rfl ?_
            refine nw_sW hx hb hKW.1 hP hD hS (i := i) (by omega) (j := j) (by omega) d_Na_takeOne_40 (fun H locs hP hD hS => ?_)
            refine lv_iinc (v := nI (j + 1)) (lv' := [(2, .int (nI (j + 1))), (1, .int (nI (1))), (0, .ref (ad (2 * i + 8)))]) hx hb d_Na_takeOne_41 hl (k := 1) rfl (nI_add _ 1) (by decide) rfl (fun ls hl => ?_)
            refine lv_goto (tgt := 4) hx hb d_Na_takeOne_44 (by decide) ?_
            rw [sW_pW, pW_pW] at hP hD
            exact ih (j + 1) (upd f j (sW w i j - nI 1)) 1 H locs ls (by omega) (by rw [vN_suc0, pk_us, vN_out (Or.inr (by omega)), vN_suc0, c22, wN_dec0, wN_0, Nat.pow_succ]; omega) (fun q hq => by rw [pk_un (by omega)]; exact hf q (by omega)) (by omega) hP hD hS (lv_sub hl [0, 1, 2] rfl)
  have e0 : pW w i (sW w i) = w := pW_self w i
  exact loop (sL w i) 0 (sW w i) 1 _ _ ls (by omega) (by show 0 + 1 = 0 + 1 * 4294967296 ^ 0; omega) (fun _ _ => rfl) (by omega) (by rw [e0]; exact hP) (by rw [e0]; exact hD) hS (lv_sub hl [0, 1, 2] rfl)
end
section
/-! PIECES for fills and moves -/
section NLEN
variable {p : Program} {l : Launch} {e : Env} {R : Room} {s : State} {m : MethodId} {args : Array Value} {below : List Frame} {meth : Method} {c : Code} {H : Heap} {locs : List Loc} {cells slots : Nat} {Q : State → Prop}
variable {cc : ByteArray} {pc : Nat} {ls : Array Slot} {rest : List Value} {D : va_G} {cI cB cR : ClassId} {ad : Nat → Nat} {w : St}
theorem nw_nW (hexec : p.tables.exec = Jvm.exec) (hb : c.code = cc) (hK : va_K D clA (tyA cI cB cR) s) (hP : va_P D clA (NC cI cB cR ad w) H) {i : Nat} (hi : i < 14) (hdg : decode cc pc = .ok (.arraylength, 1))
    (kk : W p l e R s m args below meth c H locs cells slots Q (F0 m (pc + 1) ls (.int (nI 6272) :: rest))) : W p l e R s m args below meth c H locs cells slots Q (F0 m pc ls (.ref (ad (2 * i + 9)) :: rest)) :=
  va_alen hexec hb hK hP (2 * i + 9) 0 (NC_w hi) rfl rfl hdg kk
theorem nw_nR (hexec : p.tables.exec = Jvm.exec) (hb : c.code = cc) (hK : va_K D clA (tyA cI cB cR) s) (hP : va_P D clA (NC cI cB cR ad w) H) (hdg : decode cc pc = .ok (.arraylength, 1))
    (kk : W p l e R s m args below meth c H locs cells slots Q (F0 m (pc + 1) ls (.int (nI 28672) :: rest))) : W p l e R s m args below meth c H locs cells slots Q (F0 m pc ls (.ref (ad 3) :: rest)) :=
  va_alen hexec hb hK hP 3 0 (NC_at (by decide)) rfl rfl hdg kk
end NLEN
/-- the places from a to b laid with x -/
def fl (f : Nat → Int32) (a b : Nat) (x : Int32) : Nat → Int32 := fun j => if a ≤ j ∧ j < b then x else f j
theorem fl_in {f : Nat → Int32} {a b j : Nat} {x : Int32} (h1 : a ≤ j) (h2 : j < b) : fl f a b x j = x := if_pos ⟨h1, h2⟩
theorem fl_out {f : Nat → Int32} {a b j : Nat} {x : Int32} (h : j < a ∨ b ≤ j) : fl f a b x j = f j := if_neg (by omega)
theorem fl_0 (f : Nat → Int32) (a : Nat) (x : Int32) : fl f a a x = f := by
  funext j
  exact fl_out (by omega)
theorem fl_suc (f : Nat → Int32) {a b : Nat} (x : Int32) (h : a ≤ b) : upd (fl f a b x) b x = fl f a (b + 1) x := by
  funext j
  by_cases hj : j = b
  · rw [hj, pk_us, fl_in h (by omega)]
  · rw [pk_un hj]
    by_cases h2 : a ≤ j ∧ j < b
    · rw [fl_in h2.1 h2.2, fl_in h2.1 (by omega)]
    · rw [fl_out (by omega), fl_out (by omega)]
theorem rdX {w : St} {i p j : Nat} {f : Nat → Int32} (h : f j = sW w i j) : sW (pW w i f) p j = sW w p j := by
  by_cases hp : p = i
  · rw [hp, sW_pW]
    exact h
  · rw [sW_pWn _ _ hp]
theorem sh_c : ∀ k, k < 32 → ((nI k &&& 31).toBitVec.smod 32).toNat = k := by decide +kernel
theorem us_c : ∀ k, k < 32 → (((nI k).toUInt32 &&& Int32.toUInt32 31).toBitVec % 32).toNat = k := by decide +kernel
abbrev sl (x : Int32) (k : Nat) : Int32 := x <<< (nI k &&& 31)
theorem wN_sl (x : Int32) {k : Nat} (hk : k < 32) : wN (sl x k) = wN x * 2 ^ k % 4294967296 := pk_shl x (nI k &&& 31) k (sh_c k hk)
theorem wN_us (x : Int32) {k : Nat} (hk : k < 32) : wN (us x k) = wN x / 2 ^ k := pk_ushr x (nI k) k (us_c k hk)
theorem mod_pw {x k : Nat} (hk : k ≤ 32) : x * 2 ^ k % 4294967296 = 2 ^ k * (x % 2 ^ (32 - k)) := by
  rw [show (4294967296 : Nat) = 2 ^ k * 2 ^ (32 - k) by rw [← Nat.pow_add, show k + (32 - k) = 32 by omega], Nat.mul_comm x, Nat.mul_mod_mul_left]
theorem div_pw {x k : Nat} (hk : k ≤ 32) : x * 2 ^ k / 4294967296 = x / 2 ^ (32 - k) := by
  rw [show (4294967296 : Nat) = 2 ^ k * 2 ^ (32 - k) by rw [← Nat.pow_add, show k + (32 - k) = 32 by omega], Nat.mul_comm x, Nat.mul_div_mul_left _ _ (Nat.pow_pos (by decide))]
theorem div_lt_pw {x k : Nat} (hx : x < 4294967296) (hk : k ≤ 32) : x / 2 ^ (32 - k) < 2 ^ k := by
  rw [Nat.div_lt_iff_lt_mul (Nat.pow_pos (by decide)), ← Nat.pow_add, show k + (32 - k) = 32 by omega]
  exact hx
/-- a word of a number moved up by part bits: from this word and the one below -/
def upw (part : Nat) (x y : Int32) : Int32 := if part = 0 then x else sl x part ||| us y (32 - part)
theorem wN_upw {part : Nat} (h : part < 32) (x y : Int32) : wN (upw part x y) = wN x * 2 ^ part % 4294967296 + wN y * 2 ^ part / 4294967296 := by
  unfold upw
  have hx := wN_lt x
  have hy := wN_lt y
  by_cases h0 : part = 0
  · rw [if_pos h0, h0, Nat.pow_zero, Nat.mul_one, Nat.mul_one, Nat.mod_eq_of_lt hx, Nat.div_eq_of_lt hy]
    rfl
  · rw [if_neg h0, wN_or, wN_sl x h, wN_us y (by omega), mod_pw (by omega), div_pw (by omega)]
    exact (Nat.two_pow_add_eq_or_of_lt (div_lt_pw hy (by omega)) _).symm
/-- a word of a number moved down by part bits: from this word and the one above -/
def dnw (part : Nat) (x y : Int32) : Int32 := if part = 0 then x else us x part ||| sl y (32 - part)
theorem wN_dnw {part : Nat} (h : part < 32) (x y : Int32) : wN (dnw part x y) * 2 ^ part + wN x % 2 ^ part = wN x + wN y % 2 ^ part * 4294967296 := by
  unfold dnw
  have hx := wN_lt x
  have hy := wN_lt y
  by_cases h0 : part = 0
  · rw [if_pos h0, h0, Nat.pow_zero, Nat.mul_one, Nat.mod_one, Nat.mod_one]
  · have hp : (2 : Nat) ^ (32 - part) * 2 ^ part = 4294967296 := by rw [← Nat.pow_add, show 32 - part + part = 32 by omega]
    have hlt : wN x / 2 ^ part < 2 ^ (32 - part) := by
      rw [Nat.div_lt_iff_lt_mul (Nat.pow_pos (by decide)), hp]
      exact hx
    rw [if_neg h0, wN_or, wN_us x h, wN_sl y (by omega), mod_pw (by omega), show 32 - (32 - part) = part by omega, Nat.or_comm, ← Nat.two_pow_add_eq_or_of_lt hlt, Nat.add_mul]
    have h1 : 2 ^ (32 - part) * (wN y % 2 ^ part) * 2 ^ part = wN y % 2 ^ part * 4294967296 := by
      rw [Nat.mul_right_comm, hp, Nat.mul_comm]
    have h2 := Nat.div_add_mod (wN x) (2 ^ part)
    rw [Nat.mul_comm] at h2
    rw [h1]
    omega
end
section
/-! Arrays.rangeCheck, Arrays.fill (rows laid by wip/whole/gen/c_ja.py) -/
set_option maxHeartbeats 4000000 in
set_option maxRecDepth 100000 in
/-- rangeCheck, where nothing is wrong -/
theorem c_Ja_rangeCheck (l : Launch) {D : va_G} {cI cB cR : ClassId} {ad : Nat → Nat} (w : St) (sz : Nat) {n a b : Nat} (hab : a ≤ b) (hbn : b ≤ n) (hn : n < 2 ^ 31) : Met l y_Ja_rangeCheck (q_Ja_rangeCheck :: wA) { frames := 0, cells := 0, slots := 0, locals := 0 } (va_Pc [.int (nI (n)), .int (nI (a)), .int (nI (b))] (PW D cI cB cR ad w sz)) (va_Qv (fun w1 : St => w1 = w) (BW D cI cB cR ad) (AA ad sz)) 0 0 (AA ad sz) := by
  refine Met.ofW (cc := b_Ja_rangeCheck) (maxL := 3) (ret := none) (by decide) rfl ?_
  intro p e s m args below meth c s₁ B hml hv
  obtain ⟨rfl, hsz, hP, hD0, hKW⟩ := hv
  have hx := B.exec
  have hb := B.bytes
  have hr := B.returns
  have hts := atoms_spec (ws := q_Ja_rangeCheck :: wA) B.pre
  have hown : s.vm.findClass R_Ja = some m.cls := findClass_of_methodNamed B.named
  have hlocks := B.notSynchronized
  subst hsz
  have hD := NC_AA (sz := s.heap.size) hD0
  have hS : va_S (AA ad s.heap.size) s.heap s.heap [] := va_S.rf
  have hl := lv_entry ([.int (nI (n)), .int (nI (a)), .int (nI (b))]) (n := 3) (Nat.le_of_ble_eq_true rfl)
  rw [lg_entry_eq]
  generalize (lg_sl ([.int (nI (n)), .int (nI (a)), .int (nI (b))]) ++ List.replicate (3 - (lg_sl ([.int (nI (n)), .int (nI (a)), .int (nI (b))])).length) Slot.unset).toArray = ls at hl ⊢
  have hl : lv_has ls 3 [(0, .int (nI (n))), (1, .int (nI (a))), (2, .int (nI (b)))] := hl
  refine lv_iload_n hx hb d_Ja_rangeCheck_0 rfl (lv_at hl 1 rfl) ?_
  refine lv_iload_n hx hb d_Ja_rangeCheck_1 rfl (lv_at hl 2 rfl) ?_
  refine lv_icmp_le (tgt := 46) hx hb d_Ja_rangeCheck_2 (by decide) (fun c2 => ?_) (fun c2 => ?_)
  · skip
    have c2 : a ≤ b := (nI_leI (by omega) (by omega)).mp c2
    refine lv_iload_n hx hb d_Ja_rangeCheck_46 rfl (lv_at hl 1 rfl) ?_
    refine lv_if_ge (tgt := 59) hx hb d_Ja_rangeCheck_47 (by decide) (fun c47 => ?_) (fun c47 => ?_)
    · skip
      have c47 : 0 ≤ a := (nI_leI (by omega) (by omega)).mp (by rw [nI_0]; exact c47)
      refine lv_iload_n hx hb d_Ja_rangeCheck_59 rfl (lv_at hl 2 rfl) ?_
      refine lv_iload_n hx hb d_Ja_rangeCheck_60 rfl (lv_at hl 0 rfl) ?_
      refine lv_icmp_le (tgt := 73) hx hb d_Ja_rangeCheck_61 (by decide) (fun c61 => ?_) (fun c61 => ?_)
      · skip
        have c61 : b ≤ n := (nI_leI (by omega) (by omega)).mp c61
        exact W.vret hx hb hr (fun t ht hW => ⟨⟨w, rfl, rfl, BW_of ht hP⟩, hS.F ht⟩) hS.2.2 d_Ja_rangeCheck_73
      · exact absurd (nI_le hbn (by omega)) c61
    · exact absurd (nI_pos' (by omega)) c47
  · exact absurd (nI_le hab (by omega)) c2
set_option maxHeartbeats 4000000 in
set_option maxRecDepth 100000 in
/-- Arrays.fill -/
theorem c_Ja_fillW (l : Launch) {D : va_G} {cI cB cR : ClassId} {ad : Nat → Nat} (w : St) (sz : Nat) {i a b : Nat} (hi : i < 14) (hab : a ≤ b) (hbn : b ≤ 6272) (x : Int32) : Met l y_Ja_fill (q_Ja_fill :: wA) { frames := 1, cells := 0, slots := 0, locals := 24 } (va_Pc [.ref (ad (2 * i + 9)), .int (nI (a)), .int (nI (b)), .int (x)] (PW D cI cB cR ad w sz)) (va_Qv (fun w1 : St => w1 = pW w i (fl (sW w i) a b x)) (BW D cI cB cR ad) (AA ad sz)) 0 0 (AA ad sz) := by
  refine Met.ofW (cc := b_Ja_fill) (maxL := 5) (ret := none) (by decide) rfl ?_
  intro p e s m args below meth c s₁ B hml hv
  obtain ⟨rfl, hsz, hP, hD0, hKW⟩ := hv
  have hx := B.exec
  have hb := B.bytes
  have hr := B.returns
  have hts := atoms_spec (ws := q_Ja_fill :: wA) B.pre
  have hown : s.vm.findClass R_Ja = some m.cls := findClass_of_methodNamed B.named
  have hlocks := B.notSynchronized
  subst hsz
  have hD := NC_AA (sz := s.heap.size) hD0
  have hS : va_S (AA ad s.heap.size) s.heap s.heap [] := va_S.rf
  have hl := lv_entry ([.ref (ad (2 * i + 9)), .int (nI (a)), .int (nI (b)), .int (x)]) (n := 5) (Nat.le_of_ble_eq_true rfl)
  rw [lg_entry_eq]
  generalize (lg_sl ([.ref (ad (2 * i + 9)), .int (nI (a)), .int (nI (b)), .int (x)]) ++ List.replicate (5 - (lg_sl ([.ref (ad (2 * i + 9)), .int (nI (a)), .int (nI (b)), .int (x)])).length) Slot.unset).toArray = ls at hl ⊢
  have hl : lv_has ls 5 [(0, .ref (ad (2 * i + 9))), (1, .int (nI (a))), (2, .int (nI (b))), (3, .int (x))] := hl
  refine lv_aload_n hx hb d_Ja_fill_0 rfl (lv_at hl 0 rfl) ?_
  refine nw_nW hx hb hKW.1 hP (i := i) (by omega) d_Ja_fill_1 ?_
  refine lv_iload_n hx hb d_Ja_fill_2 rfl (lv_at hl 1 rfl) ?_
  refine lv_iload_n hx hb d_Ja_fill_3 rfl (lv_at hl 2 rfl) ?_
  refine wS_v (As := [.int (nI (6272)), .int (nI (a)), .int (nI (b))]) (rest := []) (n := 3) ⟨hx, hb, hml, hown, hts⟩ (c_Ja_rangeCheck l w _ (n := 6272) (a := a) (b := b) hab hbn (by decide)) (cwS0 3 hts lm_Ja_13 st_Ja_rangeCheck in_Ja kq_Ja_rangeCheck rfl rfl rfl (by decide +kernel) ⟨Nat.le_of_ble_eq_true rfl, Nat.le_of_ble_eq_true rfl⟩) hKW hP hD hS rfl hl.1 rfl (Nat.le_of_ble_eq_true rfl) d_Ja_fill_4 ⟨Nat.zero_le _, Nat.zero_le _⟩ (fun w1 H locs hp hP hD hS => ?_)
  rw [hp] at hP hD
  refine lv_iload_n hx hb d_Ja_fill_7 rfl (lv_at hl 1 rfl) ?_
  refine lv_istore (lv' := [(4, .int (nI (a))), (0, .ref (ad (2 * i + 9))), (1, .int (nI (a))), (2, .int (nI (b))), (3, .int (x))]) hx hb d_Ja_fill_8 hl (by decide) rfl (fun ls hl => ?_)
  have loop : ∀ (n j : Nat) (H : Heap) (locs : List Loc) (ls : Array Slot), a ≤ j → j + n = b → va_P D clA (NC cI cB cR ad (pW w i (fl (sW w i) a j x))) H → va_D (AA ad s.heap.size) (NC cI cB cR ad (pW w i (fl (sW w i) a j x))) → va_S (AA ad s.heap.size) s.heap H locs → lv_has ls 5 [(4, .int (nI (j))), (0, .ref (ad (2 * i + 9))), (1, .int (nI (a))), (2, .int (nI (b))), (3, .int (x))] → W p l e (headSpec (q_Ja_fill :: wA) { frames := 1, cells := 0, slots := 0, locals := 24 }).room s m ([.ref (ad (2 * i + 9)), .int (nI (a)), .int (nI (b)), .int (x)] : List Value).toArray below meth c H locs 0 0 (MQ below (va_Qv (fun w1 : St => w1 = pW w i (fl (sW w i) a b x)) (BW D cI cB cR ad) (AA ad s.heap.size)) ([.ref (ad (2 * i + 9)), .int (nI (a)), .int (nI (b)), .int (x)] : List Value).toArray s 0 0 (AA ad s.heap.size)) (F0 m 10 ls []) := by
    intro n
    induction n with
    | zero =>
      intro j H locs ls h1 hj hP hD hS hl
      refine lv_iload hx hb d_Ja_fill_10 (lv_at hl 0 rfl) ?_
      refine lv_iload_n hx hb d_Ja_fill_12 rfl (lv_at hl 3 rfl) ?_
      refine lv_icmp_ge (tgt := 27) hx hb d_Ja_fill_13 (by decide) (fun c13 => ?_) (fun c13 => ?_)
      · skip
        have c13 : b ≤ j := (nI_leI (by omega) (by omega)).mp c13
        have ej : j = b := by omega
        subst ej
        exact W.vret hx hb hr (fun t ht hW => ⟨⟨pW w i (fl (sW w i) a j x), rfl, rfl, BW_of ht hP⟩, hS.F ht⟩) hS.2.2 d_Ja_fill_27
      · exact absurd (nI_le (by omega) (by omega)) c13
    | succ n ih =>
      intro j H locs ls h1 hj hP hD hS hl
      refine lv_iload hx hb d_Ja_fill_10 (lv_at hl 0 rfl) ?_
      refine lv_iload_n hx hb d_Ja_fill_12 rfl (lv_at hl 3 rfl) ?_
      refine lv_icmp_ge (tgt := 27) hx hb d_Ja_fill_13 (by decide) (fun c13 => ?_) (fun c13 => ?_)
      · exact absurd c13 (nI_ge (by omega) (by omega))
      · skip
        refine lv_aload_n hx hb d_Ja_fill_16 rfl (lv_at hl 1 rfl) ?_
        refine lv_iload hx hb d_Ja_fill_17 (lv_at hl 0 rfl) ?_
        refine lv_iload_n hx hb d_Ja_fill_19 rfl (lv_at hl 4 rfl) ?_
        refine nw_sW hx hb hKW.1 hP hD hS (i := i) (by omega) (j := j) (by omega) d_Ja_fill_20 (fun H locs hP hD hS => ?_)
        refine lv_iinc (v := nI (j + 1)) (lv' := [(4, .int (nI (j + 1))), (0, .ref (ad (2 * i + 9))), (1, .int (nI (a))), (2, .int (nI (b))), (3, .int (x))]) hx hb d_Ja_fill_21 hl (k := 0) rfl (nI_add _ 1) (by decide) rfl (fun ls hl => ?_)
        refine lv_goto (tgt := 10) hx hb d_Ja_fill_24 (by decide) ?_
        rw [sW_pW, pW_pW, fl_suc _ _ h1] at hP hD
        exact ih (j + 1) H locs ls (by omega) (by omega) hP hD hS (lv_sub hl [0, 1, 2, 3, 4] rfl)
  have e0 : pW w i (fl (sW w i) a a x) = w := by rw [fl_0]; exact pW_self w i
  exact loop (b - a) a _ _ ls (Nat.le_refl _) (by omega) (by rw [e0]; exact hP) (by rw [e0]; exact hD) hS (lv_sub hl [0, 1, 2, 3, 4] rfl)
set_option maxHeartbeats 4000000 in
set_option maxRecDepth 100000 in
/-- Arrays.fill -/
theorem c_Ja_fillR (l : Launch) {D : va_G} {cI cB cR : ClassId} {ad : Nat → Nat} (w : St) (sz : Nat) {a b : Nat} (hab : a ≤ b) (hbn : b ≤ 28672) (x : Int32) : Met l y_Ja_fill (q_Ja_fill :: wA) { frames := 1, cells := 0, slots := 0, locals := 24 } (va_Pc [.ref (ad 3), .int (nI (a)), .int (nI (b)), .int (x)] (PW D cI cB cR ad w sz)) (va_Qv (fun w1 : St => w1 = pR w (fl (sR w) a b x)) (BW D cI cB cR ad) (AA ad sz)) 0 0 (AA ad sz) := by
  refine Met.ofW (cc := b_Ja_fill) (maxL := 5) (ret := none) (by decide) rfl ?_
  intro p e s m args below meth c s₁ B hml hv
  obtain ⟨rfl, hsz, hP, hD0, hKW⟩ := hv
  have hx := B.exec
  have hb := B.bytes
  have hr := B.returns
  have hts := atoms_spec (ws := q_Ja_fill :: wA) B.pre
  have hown : s.vm.findClass R_Ja = some m.cls := findClass_of_methodNamed B.named
  have hlocks := B.notSynchronized
  subst hsz
  have hD := NC_AA (sz := s.heap.size) hD0
  have hS : va_S (AA ad s.heap.size) s.heap s.heap [] := va_S.rf
  have hl := lv_entry ([.ref (ad 3), .int (nI (a)), .int (nI (b)), .int (x)]) (n := 5) (Nat.le_of_ble_eq_true rfl)
  rw [lg_entry_eq]
  generalize (lg_sl ([.ref (ad 3), .int (nI (a)), .int (nI (b)), .int (x)]) ++ List.replicate (5 - (lg_sl ([.ref (ad 3), .int (nI (a)), .int (nI (b)), .int (x)])).length) Slot.unset).toArray = ls at hl ⊢
  have hl : lv_has ls 5 [(0, .ref (ad 3)), (1, .int (nI (a))), (2, .int (nI (b))), (3, .int (x))] := hl
  refine lv_aload_n hx hb d_Ja_fill_0 rfl (lv_at hl 0 rfl) ?_
  refine nw_nR hx hb hKW.1 hP d_Ja_fill_1 ?_
  refine lv_iload_n hx hb d_Ja_fill_2 rfl (lv_at hl 1 rfl) ?_
  refine lv_iload_n hx hb d_Ja_fill_3 rfl (lv_at hl 2 rfl) ?_
  refine wS_v (As := [.int (nI (28672)), .int (nI (a)), .int (nI (b))]) (rest := []) (n := 3) ⟨hx, hb, hml, hown, hts⟩ (c_Ja_rangeCheck l w _ (n := 28672) (a := a) (b := b) hab hbn (by decide)) (cwS0 3 hts lm_Ja_13 st_Ja_rangeCheck in_Ja kq_Ja_rangeCheck rfl rfl rfl (by decide +kernel) ⟨Nat.le_of_ble_eq_true rfl, Nat.le_of_ble_eq_true rfl⟩) hKW hP hD hS rfl hl.1 rfl (Nat.le_of_ble_eq_true rfl) d_Ja_fill_4 ⟨Nat.zero_le _, Nat.zero_le _⟩ (fun w1 H locs hp hP hD hS => ?_)
  rw [hp] at hP hD
  refine lv_iload_n hx hb d_Ja_fill_7 rfl (lv_at hl 1 rfl) ?_
  refine lv_istore (lv' := [(4, .int (nI (a))), (0, .ref (ad 3)), (1, .int (nI (a))), (2, .int (nI (b))), (3, .int (x))]) hx hb d_Ja_fill_8 hl (by decide) rfl (fun ls hl => ?_)
  have loop : ∀ (n j : Nat) (H : Heap) (locs : List Loc) (ls : Array Slot), a ≤ j → j + n = b → va_P D clA (NC cI cB cR ad (pR w (fl (sR w) a j x))) H → va_D (AA ad s.heap.size) (NC cI cB cR ad (pR w (fl (sR w) a j x))) → va_S (AA ad s.heap.size) s.heap H locs → lv_has ls 5 [(4, .int (nI (j))), (0, .ref (ad 3)), (1, .int (nI (a))), (2, .int (nI (b))), (3, .int (x))] → W p l e (headSpec (q_Ja_fill :: wA) { frames := 1, cells := 0, slots := 0, locals := 24 }).room s m ([.ref (ad 3), .int (nI (a)), .int (nI (b)), .int (x)] : List Value).toArray below meth c H locs 0 0 (MQ below (va_Qv (fun w1 : St => w1 = pR w (fl (sR w) a b x)) (BW D cI cB cR ad) (AA ad s.heap.size)) ([.ref (ad 3), .int (nI (a)), .int (nI (b)), .int (x)] : List Value).toArray s 0 0 (AA ad s.heap.size)) (F0 m 10 ls []) := by
    intro n
    induction n with
    | zero =>
      intro j H locs ls h1 hj hP hD hS hl
      refine lv_iload hx hb d_Ja_fill_10 (lv_at hl 0 rfl) ?_
      refine lv_iload_n hx hb d_Ja_fill_12 rfl (lv_at hl 3 rfl) ?_
      refine lv_icmp_ge (tgt := 27) hx hb d_Ja_fill_13 (by decide) (fun c13 => ?_) (fun c13 => ?_)
      · skip
        have c13 : b ≤ j := (nI_leI (by omega) (by omega)).mp c13
        have ej : j = b := by omega
        subst ej
        exact W.vret hx hb hr (fun t ht hW => ⟨⟨pR w (fl (sR w) a j x), rfl, rfl, BW_of ht hP⟩, hS.F ht⟩) hS.2.2 d_Ja_fill_27
      · exact absurd (nI_le (by omega) (by omega)) c13
    | succ n ih =>
      intro j H locs ls h1 hj hP hD hS hl
      refine lv_iload hx hb d_Ja_fill_10 (lv_at hl 0 rfl) ?_
      refine lv_iload_n hx hb d_Ja_fill_12 rfl (lv_at hl 3 rfl) ?_
      refine lv_icmp_ge (tgt := 27) hx hb d_Ja_fill_13 (by decide) (fun c13 => ?_) (fun c13 => ?_)
      · exact absurd c13 (nI_ge (by omega) (by omega))
      · skip
        refine lv_aload_n hx hb d_Ja_fill_16 rfl (lv_at hl 1 rfl) ?_
        refine lv_iload hx hb d_Ja_fill_17 (lv_at hl 0 rfl) ?_
        refine lv_iload_n hx hb d_Ja_fill_19 rfl (lv_at hl 4 rfl) ?_
        refine nw_sR hx hb hKW.1 hP hD hS (j := j) (by omega) d_Ja_fill_20 (fun H locs hP hD hS => ?_)
        refine lv_iinc (v := nI (j + 1)) (lv' := [(4, .int (nI (j + 1))), (0, .ref (ad 3)), (1, .int (nI (a))), (2, .int (nI (b))), (3, .int (x))]) hx hb d_Ja_fill_21 hl (k := 0) rfl (nI_add _ 1) (by decide) rfl (fun ls hl => ?_)
        refine lv_goto (tgt := 10) hx hb d_Ja_fill_24 (by decide) ?_
        have hP : va_P D clA (NC cI cB cR ad (pR w (upd (fl (sR w) a j x) j x))) H := hP
        have hD : va_D (AA ad s.heap.size) (NC cI cB cR ad (pR w (upd (fl (sR w) a j x) j x))) := hD
        rw [fl_suc _ _ h1] at hP hD
        exact ih (j + 1) H locs ls (by omega) (by omega) hP hD hS (lv_sub hl [0, 1, 2, 3, 4] rfl)
  have e0 : pR w (fl (sR w) a a x) = w := by rw [fl_0]; exact pR_self w
  exact loop (b - a) a _ _ ls (Nat.le_refl _) (by omega) (by rw [e0]; exact hP) (by rw [e0]; exact hD) hS (lv_sub hl [0, 1, 2, 3, 4] rfl)
end
section
/-! MOVES by bits: the values -/
theorem mu_step {g f : Nat → Int32} {k b n pt : Nat} {A y : Int32} (hpt : pt < 32) (hinv : vN g (k + 1) n * 2 ^ pt = wN A * 2 ^ pt % 4294967296 + 4294967296 * vN f (b + 1) n) (hy : y = g k) :
    vN g k (n + 1) * 2 ^ pt = wN y * 2 ^ pt % 4294967296 + 4294967296 * vN (upd f b (upw pt A y)) b (n + 1) := by
  rw [vN_cons, vN_cons, pk_us, vN_out (Or.inl (by omega)), wN_upw hpt, ← hy, Nat.add_mul, Nat.mul_assoc, hinv]
  have h := Nat.div_add_mod (wN y * 2 ^ pt) 4294967296
  generalize wN y * 2 ^ pt = Y at *
  generalize wN A * 2 ^ pt % 4294967296 = X
  generalize vN f (b + 1) n = T
  omega
theorem mu_end {g f : Nat → Int32} {L wh pt v : Nat} {A : Int32} (hpt : pt < 32) (hinv : vN g 0 L * 2 ^ pt = wN A * 2 ^ pt % 4294967296 + 4294967296 * vN f (0 + wh + 1) L) (hv : vN g 0 L = v) :
    vN (fl (upd f wh (sl A pt)) 0 wh (nI 0)) 0 (L + wh + 1) = v * 2 ^ (32 * wh + pt) := by
  rw [show L + wh + 1 = wh + (L + 1) by omega, vN_add, vN_zero (fun i hi => by rw [Nat.zero_add, fl_in (Nat.zero_le _) hi]; exact nI_0), vN_cons]
  rw [Nat.zero_add wh, fl_out (by omega), Nat.zero_add, pk_us, wN_sl A hpt, vN_congr (f := fl (upd f wh (sl A pt)) 0 wh (nI 0)) (g := f) (a := wh + 1) (b := wh + 1) (fun i hi => by rw [fl_out (by omega), pk_un (by omega)])]
  rw [Nat.zero_add] at hinv
  rw [← hinv, hv, Nat.pow_add, Nat.pow_mul]
  show 4294967296 ^ wh * (v * 2 ^ pt) = v * (4294967296 ^ wh * 2 ^ pt)
  rw [Nat.mul_left_comm]
theorem md_step {f : Nat → Int32} {j pt r0 V : Nat} {x y : Int32} (hpt : pt < 32) (hinv : vN f 0 j * 2 ^ pt + r0 = V + wN x % 2 ^ pt * 4294967296 ^ j) :
    vN (upd f j (dnw pt x y)) 0 (j + 1) * 2 ^ pt + r0 = V + wN x * 4294967296 ^ j + wN y % 2 ^ pt * 4294967296 ^ (j + 1) := by
  rw [vN_suc0, pk_us, vN_out (Or.inr (by omega)), Nat.pow_succ]
  have h := wN_dnw hpt x y
  generalize wN (dnw pt x y) = d at *
  generalize wN x % 2 ^ pt = xm at *
  generalize wN y % 2 ^ pt = ym at *
  generalize 2 ^ pt = P at *
  generalize 4294967296 ^ j = Q at *
  have e1 : (vN f 0 j + d * Q) * P = vN f 0 j * P + d * P * Q := by rw [Nat.add_mul, Nat.mul_right_comm]
  have e2 : (d * P + xm) * Q = (wN x + ym * 4294967296) * Q := by rw [h]
  rw [Nat.add_mul, Nat.add_mul] at e2
  have e3 : ym * (Q * 4294967296) = ym * 4294967296 * Q := by rw [Nat.mul_comm Q, Nat.mul_assoc]
  rw [e1, e3]
  omega
theorem md_end {f g : Nat → Int32} {L wh pt v r0 cnt : Nat} (hv : vN g 0 L = v) (hcnt : cnt = L - wh) (h : vN f 0 cnt * 2 ^ pt + r0 = vN g wh cnt) (hr : r0 < 2 ^ pt) : vN f 0 cnt = v / 2 ^ (32 * wh + pt) := by
  have h1 : v / 4294967296 ^ wh = vN g wh cnt := by
    rcases Nat.lt_or_ge L wh with q | q
    · have : cnt = 0 := by omega
      subst this
      rw [← hv, Nat.div_eq_of_lt (Nat.lt_of_lt_of_le (vN_lt g 0 L) (Nat.pow_le_pow_right (by decide) (by omega)))]
      rfl
    · have e : vN g 0 L = vN g 0 wh + 4294967296 ^ wh * vN g (0 + wh) cnt := by rw [← vN_add, show wh + cnt = L by omega]
      rw [← hv, e, Nat.zero_add, Nat.add_mul_div_left _ _ (Nat.pow_pos (by decide)), Nat.div_eq_of_lt (vN_lt g 0 wh), Nat.zero_add]
  rw [Nat.pow_add, Nat.pow_mul, ← Nat.div_div_eq_div_mul]
  show _ = v / 4294967296 ^ wh / 2 ^ pt
  rw [h1]
  exact (rd_end h hr).1
theorem mx_sub {a b : Nat} (ha : a < 2 ^ 30) (hb : b < 2 ^ 30) : (if nI 0 < nI a - nI b then nI a - nI b else nI 0) = nI (a - b) := by
  have hi := pk_sub_toInt ha hb
  have h0 : (nI 0).toInt = 0 := by decide
  rcases Nat.lt_or_ge b a with q | q
  · rw [if_pos (by rw [Int32.lt_iff_toInt_lt, hi, h0]; omega), pk_sub (by omega)]
  · rw [if_neg (by rw [Int32.lt_iff_toInt_lt, hi, h0]; omega), show a - b = 0 by omega]
theorem NV_0 (w : St) (i : Nat) : NV (pL w i 0) i 0 := by
  unfold NV
  rw [sL_pL]
  exact ⟨by omega, Or.inl rfl, rfl⟩
theorem eqN_pL (w : St) (i k : Nat) : eqN w (pL w i k) i := ⟨fun j hj => ⟨rfl, sL_pLn w k hj⟩, rfl⟩
end
section
/-! NUMBERS: the contracts of Natural, 7: moves (rows laid by wip/whole/gen/c_na7.py) -/
set_option maxHeartbeats 4000000 in
set_option maxRecDepth 100000 in
/-- moveUp(a, whole, part) -/
theorem c_Na_moveUp (l : Launch) {D : va_G} {cI cB cR : ClassId} {ad : Nat → Nat} (w : St) (sz : Nat) {i a v wh pt : Nat} (hi : i < 14) (ha : a < 14) (hv : NV w a v) (hpt : pt < 32) (hfit : sL w a + wh + 1 ≤ 6272) : Met l y_Na_moveUp (q_Na_moveUp :: wA) { frames := 2, cells := 0, slots := 0, locals := 64 } (va_Pc [.ref (ad (2 * i + 8)), .ref (ad (2 * a + 8)), .int (nI (wh)), .int (nI (pt))] (PW D cI cB cR ad w sz)) (va_Qv (fun w1 : St => eqN w w1 i ∧ NV w1 i (v * 2 ^ (32 * wh + pt))) (BW D cI cB cR ad) (AA ad sz)) 0 0 (AA ad sz) := by
  refine Met.ofW (cc := b_Na_moveUp) (maxL := 8) (ret := none) (by decide) rfl ?_
  intro p e s m args below meth c s₁ B hml hv
  obtain ⟨rfl, hsz, hP, hD0, hKW⟩ := hv
  have hx := B.exec
  have hb := B.bytes
  have hr := B.returns
  have hts := atoms_spec (ws := q_Na_moveUp :: wA) B.pre
  have hown : s.vm.findClass R_Na = some m.cls := findClass_of_methodNamed B.named
  have hlocks := B.notSynchronized
  subst hsz
  have hD := NC_AA (sz := s.heap.size) hD0
  have hS : va_S (AA ad s.heap.size) s.heap s.heap [] := va_S.rf
  have hl := lv_entry ([.ref (ad (2 * i + 8)), .ref (ad (2 * a + 8)), .int (nI (wh)), .int (nI (pt))]) (n := 8) (Nat.le_of_ble_eq_true rfl)
  rw [lg_entry_eq]
  generalize (lg_sl ([.ref (ad (2 * i + 8)), .ref (ad (2 * a + 8)), .int (nI (wh)), .int (nI (pt))]) ++ List.replicate (8 - (lg_sl ([.ref (ad (2 * i + 8)), .ref (ad (2 * a + 8)), .int (nI (wh)), .int (nI (pt))])).length) Slot.unset).toArray = ls at hl ⊢
  have hl : lv_has ls 8 [(0, .ref (ad (2 * i + 8))), (1, .ref (ad (2 * a + 8))), (2, .int (nI (wh))), (3, .int (nI (pt)))] := hl
  obtain ⟨L, hL⟩ : ∃ L, L = sL w a := ⟨_, rfl⟩
  rw [← hL] at hfit
  refine lv_aload_n hx hb d_Na_moveUp_0 rfl (lv_at hl 1 rfl) ?_
  refine nw_gL hx hb hts hown hKW.1 hP (i := a) (by omega) (n := L) hL.symm lf_Na_15 d_Na_moveUp_1 ?_
  refine lv_istore (lv' := [(4, .int (nI (L))), (0, .ref (ad (2 * i + 8))), (1, .ref (ad (2 * a + 8))), (2, .int (nI (wh))), (3, .int (nI (pt)))]) hx hb d_Na_moveUp_4 hl (by decide) rfl (fun ls hl => ?_)
  refine lv_iload hx hb d_Na_moveUp_6 (lv_at hl 0 rfl) ?_
  refine lv_if_ne (tgt := 17) hx hb d_Na_moveUp_8 (by decide) (fun c8 => ?_) (fun c8 => ?_)
  · skip
    have c8 : ¬ (L = 0) := fun h => c8 (by have := (nI_eq (by omega) (by omega)).mpr h; rwa [nI_0] at this)
    refine lv_iconst (v := nI (0)) hx hb d_Na_moveUp_17 (by decide) ?_
    refine lv_istore (lv' := [(5, .int (nI (0))), (4, .int (nI (L))), (0, .ref (ad (2 * i + 8))), (1, .ref (ad (2 * a + 8))), (2, .int (nI (wh))), (3, .int (nI (pt)))]) hx hb d_Na_moveUp_18 hl (by decide) rfl (fun ls hl => ?_)
    refine lv_iload hx hb d_Na_moveUp_20 (lv_at hl 1 rfl) ?_
    refine lv_iconst (v := nI (1)) hx hb d_Na_moveUp_22 (by decide) ?_
    refine nw_isub (v := dn L) hx hb d_Na_moveUp_23 (dn_sub _) ?_
    refine lv_istore (lv' := [(6, .int (dn L)), (5, .int (nI (0))), (4, .int (nI (L))), (0, .ref (ad (2 * i + 8))), (1, .ref (ad (2 * a + 8))), (2, .int (nI (wh))), (3, .int (nI (pt)))]) hx hb d_Na_moveUp_24 hl (by decide) rfl (fun ls hl => ?_)
    have loop : ∀ (k : Nat) (f : Nat → Int32) (A : Int32) (n : Nat) (H : Heap) (locs : List Loc) (ls : Array Slot), k + n = L → vN (sW w a) k n * 2 ^ pt = wN A * 2 ^ pt % 4294967296 + 4294967296 * vN f (k + wh + 1) n → (∀ q, q < k + wh + 1 → f q = sW w i q) → va_P D clA (NC cI cB cR ad (pW w i f)) H → va_D (AA ad s.heap.size) (NC cI cB cR ad (pW w i f)) → va_S (AA ad s.heap.size) s.heap H locs → lv_has ls 8 [(6, .int (dn k)), (5, .int (A)), (4, .int (nI (L))), (0, .ref (ad (2 * i + 8))), (1, .ref (ad (2 * a + 8))), (2, .int (nI (wh))), (3, .int (nI (pt)))] → W p l e (headSpec (q_Na_moveUp :: wA) { frames := 2, cells := 0, slots := 0, locals := 64 }).room s m ([.ref (ad (2 * i + 8)), .ref (ad (2 * a + 8)), .int (nI (wh)), .int (nI (pt))] : List Value).toArray below meth c H locs 0 0 (MQ below (va_Qv (fun w1 : St => eqN w w1 i ∧ NV w1 i (v * 2 ^ (32 * wh + pt))) (BW D cI cB cR ad) (AA ad s.heap.size)) ([.ref (ad (2 * i + 8)), .ref (ad (2 * a + 8)), .int (nI (wh)), .int (nI (pt))] : List Value).toArray s 0 0 (AA ad s.heap.size)) (F0 m 26 ls []) := by
      intro k
      induction k with
      | zero =>
        intro f A n H locs ls hj hinv hf hP hD hS hl
        refine lv_iload hx hb d_Na_moveUp_26 (lv_at hl 0 rfl) ?_
        refine lv_if_lt (tgt := 82) hx hb d_Na_moveUp_28 (by decide) (fun c28 => ?_) (fun c28 => ?_)
        · skip
          have en : L = n := by omega
          subst en
          refine lv_aload_n hx hb d_Na_moveUp_82 rfl (lv_at hl 3 rfl) ?_
          refine nw_gW hx hb hts hown hKW.1 hP (i := i) (by omega) lf_Na_9 d_Na_moveUp_83 ?_
          refine lv_iload_n hx hb d_Na_moveUp_86 rfl (lv_at hl 5 rfl) ?_
          refine lv_iload hx hb d_Na_moveUp_87 (lv_at hl 1 rfl) ?_
          refine lv_iload_n hx hb d_Na_moveUp_89 rfl (lv_at hl 6 rfl) ?_
          refine nw_ishl (v := sl A pt) hx hb d_Na_moveUp_90 rfl ?_
          refine nw_sW hx hb hKW.1 hP hD hS (i := i) (by omega) (j := wh) (by omega) d_Na_moveUp_91 (fun H locs hP hD hS => ?_)
          refine lv_aload_n hx hb d_Na_moveUp_92 rfl (lv_at hl 3 rfl) ?_
          refine nw_gW hx hb hts hown hKW.1 hP (i := i) (by omega) lf_Na_9 d_Na_moveUp_93 ?_
          refine lv_iconst (v := nI (0)) hx hb d_Na_moveUp_96 (by decide) ?_
          refine lv_iload_n hx hb d_Na_moveUp_97 rfl (lv_at hl 5 rfl) ?_
          refine lv_iconst (v := nI (0)) hx hb d_Na_moveUp_98 (by decide) ?_
          refine wS_v (As := [.ref (ad (2 * i + 9)), .int (nI (0)), .int (nI (wh)), .int (nI (0))]) (rest := []) (n := 4) ⟨hx, hb, hml, hown, hts⟩ (c_Ja_fillW l (pW (pW w i f) i (upd (sW (pW w i f) i) (wh) (sl A pt))) _ (i := i) (a := 0) (b := wh) hi (by omega) (by omega) (nI 0)) (cwS0 4 hts lm_Na_42 st_Ja_fill in_Ja kq_Ja_fill rfl rfl rfl (by decide +kernel) ⟨Nat.le_of_ble_eq_true rfl, Nat.le_of_ble_eq_true rfl⟩) hKW hP hD hS rfl hl.1 rfl (Nat.le_of_ble_eq_true rfl) d_Na_moveUp_99 ⟨Nat.zero_le _, Nat.zero_le _⟩ (fun w1 H locs hp hP hD hS => ?_)
          simp only [sW_pW, pW_pW] at hp
          rw [hp] at hP hD
          refine lv_aload_n hx hb d_Na_moveUp_102 rfl (lv_at hl 3 rfl) ?_
          refine lv_iload hx hb d_Na_moveUp_103 (lv_at hl 2 rfl) ?_
          refine lv_iload_n hx hb d_Na_moveUp_105 rfl (lv_at hl 5 rfl) ?_
          refine nw_iadd (v := nI (L + wh)) hx hb d_Na_moveUp_106 (nI_add _ _) ?_
          refine lv_iconst (v := nI (1)) hx hb d_Na_moveUp_107 (by decide) ?_
          refine nw_iadd (v := nI (L + wh + 1)) hx hb d_Na_moveUp_108 (nI_add _ _) ?_
          refine wV_v (As := [.int (nI (L + wh + 1))]) (rest := []) (n := 1) ⟨hx, hb, hml, hown, hts⟩ (c_Na_trim l (pW w i (fl (upd f wh (sl A pt)) 0 wh (nI 0))) _ (i := i) (n := L + wh + 1) hi (by omega)) (cwV0 1 hts lm_Na_23 im_Na_trim se_Na_trim in_Na kq_Na_trim rfl rfl rfl (by decide +kernel) ⟨Nat.le_of_ble_eq_true rfl, Nat.le_of_ble_eq_true rfl⟩) (recvN hKW.1 hP (i := i) (by omega)) hKW hP hD hS rfl hl.1 rfl (Nat.le_of_ble_eq_true rfl) d_Na_moveUp_109 ⟨Nat.zero_le _, Nat.zero_le _⟩ (fun w2 H locs hp hP hD hS => ?_)
          simp only [sW_pW, pW_pW] at hp
          have e2 := mu_end (v := v) hpt hinv (by rw [hL]; exact hv.2.2)
          exact W.vret hx hb hr (fun t ht hW => ⟨⟨w2, rfl, ⟨by rw [hp]; exact eqN_tr w i _ _, by rw [hp]; have := NV_tr (w := w) (i := i) (n := L + wh + 1) (f := fl (upd f wh (sl A pt)) 0 wh (nI 0)) (by omega); rw [e2] at this; exact this⟩, BW_of ht hP⟩, hS.F ht⟩) hS.2.2 d_Na_moveUp_112
        · exact absurd dn_0 c28
      | succ k ih =>
        intro f A n H locs ls hj hinv hf hP hD hS hl
        rw [show k + 1 + wh + 1 = k + wh + 1 + 1 by omega] at hinv
        refine lv_iload hx hb d_Na_moveUp_26 (lv_at hl 0 rfl) ?_
        refine lv_if_lt (tgt := 82) hx hb d_Na_moveUp_28 (by decide) (fun c28 => ?_) (fun c28 => ?_)
        · exact absurd c28 (nI_pos (by omega))
        · skip
          refine lv_aload_n hx hb d_Na_moveUp_31 rfl (lv_at hl 4 rfl) ?_
          refine nw_gW hx hb hts hown hKW.1 hP (i := a) (by omega) lf_Na_9 d_Na_moveUp_32 ?_
          refine lv_iload hx hb d_Na_moveUp_35 (lv_at hl 0 rfl) ?_
          refine nw_lW hx hb hKW.1 hP (i := a) (by omega) (j := k) (by omega) (x := sW w a k) (rdX (hf k (by omega))) d_Na_moveUp_37 ?_
          refine lv_istore (lv' := [(7, .int (sW w a k)), (6, .int (nI (k))), (5, .int (A)), (4, .int (nI (L))), (0, .ref (ad (2 * i + 8))), (1, .ref (ad (2 * a + 8))), (2, .int (nI (wh))), (3, .int (nI (pt)))]) hx hb d_Na_moveUp_38 hl (by decide) rfl (fun ls hl => ?_)
          refine lv_aload_n hx hb d_Na_moveUp_40 rfl (lv_at hl 4 rfl) ?_
          refine nw_gW hx hb hts hown hKW.1 hP (i := i) (by omega) lf_Na_9 d_Na_moveUp_41 ?_
          refine lv_iload hx hb d_Na_moveUp_44 (lv_at hl 1 rfl) ?_
          refine lv_iload_n hx hb d_Na_moveUp_46 rfl (lv_at hl 6 rfl) ?_
          refine nw_iadd (v := nI (k + wh)) hx hb d_Na_moveUp_47 (nI_add _ _) ?_
          refine lv_iconst (v := nI (1)) hx hb d_Na_moveUp_48 (by decide) ?_
          refine nw_iadd (v := nI (k + wh + 1)) hx hb d_Na_moveUp_49 (nI_add _ _) ?_
          refine lv_iload_n hx hb d_Na_moveUp_50 rfl (lv_at hl 7 rfl) ?_
          refine lv_if_ne (tgt := 59) hx hb d_Na_moveUp_51 (by decide) (fun c51 => ?_) (fun c51 => ?_)
          · skip
            have c51 : ¬ (pt = 0) := fun h => c51 (by have := (nI_eq (by omega) (by omega)).mpr h; rwa [nI_0] at this)
            refine lv_iload hx hb d_Na_moveUp_59 (lv_at hl 2 rfl) ?_
            refine lv_iload_n hx hb d_Na_moveUp_61 rfl (lv_at hl 7 rfl) ?_
            refine nw_ishl (v := sl A pt) hx hb d_Na_moveUp_62 rfl ?_
            refine lv_iload hx hb d_Na_moveUp_63 (lv_at hl 0 rfl) ?_
            refine lv_bipush (v := nI (32)) hx hb d_Na_moveUp_65 (by decide) ?_
            refine lv_iload_n hx hb d_Na_moveUp_67 rfl (lv_at hl 7 rfl) ?_
            refine nw_isub (v := nI (32 - pt)) hx hb d_Na_moveUp_68 (pk_sub (by omega)) ?_
            refine lv_iushr (v := us (sW w a k) (32 - pt)) hx hb d_Na_moveUp_69 rfl ?_
            refine nw_ior (v := (sl A pt) ||| (us (sW w a k) (32 - pt))) hx hb d_Na_moveUp_70 rfl ?_
            refine nw_sW hx hb hKW.1 hP hD hS (i := i) (by omega) (j := k + wh + 1) (by omega) d_Na_moveUp_71 (fun H locs hP hD hS => ?_)
            refine lv_iload hx hb d_Na_moveUp_72 (lv_at hl 0 rfl) ?_
            refine lv_istore (lv' := [(5, .int (sW w a k)), (7, .int (sW w a k)), (6, .int (nI (k))), (4, .int (nI (L))), (0, .ref (ad (2 * i + 8))), (1, .ref (ad (2 * a + 8))), (2, .int (nI (wh))), (3, .int (nI (pt)))]) hx hb d_Na_moveUp_74 hl (by decide) rfl (fun ls hl => ?_)
            refine lv_iinc (v := dn k) (lv' := [(6, .int (dn k)), (5, .int (sW w a k)), (7, .int (sW w a k)), (4, .int (nI (L))), (0, .ref (ad (2 * i + 8))), (1, .ref (ad (2 * a + 8))), (2, .int (nI (wh))), (3, .int (nI (pt)))]) hx hb d_Na_moveUp_76 hl (k := 2) rfl (dn_dec k) (by decide) rfl (fun ls hl => ?_)
            refine lv_goto (tgt := 26) hx hb d_Na_moveUp_79 (by decide) ?_
            rw [sW_pW, pW_pW, show (sl A pt ||| us (sW w a k) (32 - pt)) = upw pt A (sW w a k) from (if_neg c51).symm] at hP hD
            exact ih (upd f (k + wh + 1) (upw pt A (sW w a k))) (sW w a k) (n + 1) H locs ls (by omega) (mu_step hpt hinv rfl) (fun q hq => by rw [pk_un (by omega)]; exact hf q (by omega)) hP hD hS (lv_sub hl [0, 1, 3, 4, 5, 6, 7] rfl)
          · skip
            have c51 : pt = 0 := (nI_eq (by omega) (by omega)).mp (by rw [nI_0]; exact c51)
            refine lv_iload hx hb d_Na_moveUp_54 (lv_at hl 2 rfl) ?_
            refine lv_goto (tgt := 71) hx hb d_Na_moveUp_56 (by decide) ?_
            refine nw_sW hx hb hKW.1 hP hD hS (i := i) (by omega) (j := k + wh + 1) (by omega) d_Na_moveUp_71 (fun H locs hP hD hS => ?_)
            refine lv_iload hx hb d_Na_moveUp_72 (lv_at hl 0 rfl) ?_
            refine lv_istore (lv' := [(5, .int (sW w a k)), (7, .int (sW w a k)), (6, .int (nI (k))), (4, .int (nI (L))), (0, .ref (ad (2 * i + 8))), (1, .ref (ad (2 * a + 8))), (2, .int (nI (wh))), (3, .int (nI (pt)))]) hx hb d_Na_moveUp_74 hl (by decide) rfl (fun ls hl => ?_)
            refine lv_iinc (v := dn k) (lv' := [(6, .int (dn k)), (5, .int (sW w a k)), (7, .int (sW w a k)), (4, .int (nI (L))), (0, .ref (ad (2 * i + 8))), (1, .ref (ad (2 * a + 8))), (2, .int (nI (wh))), (3, .int (nI (pt)))]) hx hb d_Na_moveUp_76 hl (k := 2) rfl (dn_dec k) (by decide) rfl (fun ls hl => ?_)
            refine lv_goto (tgt := 26) hx hb d_Na_moveUp_79 (by decide) ?_
            rw [sW_pW, pW_pW, show (A) = upw pt A (sW w a k) from (if_pos c51).symm] at hP hD
            exact ih (upd f (k + wh + 1) (upw pt A (sW w a k))) (sW w a k) (n + 1) H locs ls (by omega) (mu_step hpt hinv rfl) (fun q hq => by rw [pk_un (by omega)]; exact hf q (by omega)) hP hD hS (lv_sub hl [0, 1, 3, 4, 5, 6, 7] rfl)
    have e0 : pW w i (sW w i) = w := pW_self w i
    exact loop L (sW w i) (nI 0) 0 _ _ ls (by omega) (by show 0 * 2 ^ pt = wN (nI 0) * 2 ^ pt % 4294967296 + 4294967296 * 0; rw [nI_0, wN_0, Nat.zero_mul]) (fun _ _ => rfl) (by rw [e0]; exact hP) (by rw [e0]; exact hD) hS (lv_sub hl [0, 1, 2, 3, 4, 5, 6] rfl)
  · skip
    have c8 : L = 0 := (nI_eq (by omega) (by omega)).mp (by rw [nI_0]; exact c8)
    refine lv_aload_n hx hb d_Na_moveUp_11 rfl (lv_at hl 1 rfl) ?_
    refine lv_iconst (v := nI (0)) hx hb d_Na_moveUp_12 (by decide) ?_
    refine nw_pL hx hb hts hown hKW.1 hP hD hS (i := i) (by omega) lf_Na_15 d_Na_moveUp_13 (fun H locs hP hD hS => ?_)
    have hz : v = 0 := hv.zero.mp (by omega)
    exact W.vret hx hb hr (fun t ht hW => ⟨⟨pL w i 0, rfl, ⟨eqN_pL w i 0, by rw [hz, Nat.zero_mul]; exact NV_0 w i⟩, BW_of ht hP⟩, hS.F ht⟩) hS.2.2 d_Na_moveUp_16
set_option maxHeartbeats 4000000 in
set_option maxRecDepth 100000 in
/-- moveDown(a, whole, part) -/
theorem c_Na_moveDown (l : Launch) {D : va_G} {cI cB cR : ClassId} {ad : Nat → Nat} (w : St) (sz : Nat) {i a v wh pt : Nat} (hi : i < 14) (ha : a < 14) (hv : NV w a v) (hpt : pt < 32) (hwh : wh < 2 ^ 30) : Met l y_Na_moveDown (q_Na_moveDown :: wA) { frames := 1, cells := 0, slots := 0, locals := 40 } (va_Pc [.ref (ad (2 * i + 8)), .ref (ad (2 * a + 8)), .int (nI (wh)), .int (nI (pt))] (PW D cI cB cR ad w sz)) (va_Qv (fun w1 : St => eqN w w1 i ∧ NV w1 i (v / 2 ^ (32 * wh + pt))) (BW D cI cB cR ad) (AA ad sz)) 0 0 (AA ad sz) := by
  refine Met.ofW (cc := b_Na_moveDown) (maxL := 8) (ret := none) (by decide) rfl ?_
  intro p e s m args below meth c s₁ B hml hv
  obtain ⟨rfl, hsz, hP, hD0, hKW⟩ := hv
  have hx := B.exec
  have hb := B.bytes
  have hr := B.returns
  have hts := atoms_spec (ws := q_Na_moveDown :: wA) B.pre
  have hown : s.vm.findClass R_Na = some m.cls := findClass_of_methodNamed B.named
  have hlocks := B.notSynchronized
  subst hsz
  have hD := NC_AA (sz := s.heap.size) hD0
  have hS : va_S (AA ad s.heap.size) s.heap s.heap [] := va_S.rf
  have hl := lv_entry ([.ref (ad (2 * i + 8)), .ref (ad (2 * a + 8)), .int (nI (wh)), .int (nI (pt))]) (n := 8) (Nat.le_of_ble_eq_true rfl)
  rw [lg_entry_eq]
  generalize (lg_sl ([.ref (ad (2 * i + 8)), .ref (ad (2 * a + 8)), .int (nI (wh)), .int (nI (pt))]) ++ List.replicate (8 - (lg_sl ([.ref (ad (2 * i + 8)), .ref (ad (2 * a + 8)), .int (nI (wh)), .int (nI (pt))])).length) Slot.unset).toArray = ls at hl ⊢
  have hl : lv_has ls 8 [(0, .ref (ad (2 * i + 8))), (1, .ref (ad (2 * a + 8))), (2, .int (nI (wh))), (3, .int (nI (pt)))] := hl
  have hla := hv.len
  obtain ⟨L, hL⟩ : ∃ L, L = sL w a := ⟨_, rfl⟩
  rw [← hL] at hla
  refine lv_iconst (v := nI (0)) hx hb d_Na_moveDown_0 (by decide) ?_
  refine lv_aload_n hx hb d_Na_moveDown_1 rfl (lv_at hl 1 rfl) ?_
  refine nw_gL hx hb hts hown hKW.1 hP (i := a) (by omega) (n := L) hL.symm lf_Na_15 d_Na_moveDown_2 ?_
  refine lv_iload_n hx hb d_Na_moveDown_5 rfl (lv_at hl 2 rfl) ?_
  refine nw_isub (v := nI L - nI wh) hx hb d_Na_moveDown_6 rfl ?_
  refine nw_max hx hb (hml.trans hl.1.symm) hts hown lm_Na_48 (Nat.le_of_ble_eq_true rfl) (Nat.le_of_ble_eq_true rfl) (Nat.zero_le _) (Nat.zero_le _) (mx_sub (by omega) (by omega)) d_Na_moveDown_7 ?_
  refine lv_istore (lv' := [(4, .int (nI (L - wh))), (0, .ref (ad (2 * i + 8))), (1, .ref (ad (2 * a + 8))), (2, .int (nI (wh))), (3, .int (nI (pt)))]) hx hb d_Na_moveDown_10 hl (by decide) rfl (fun ls hl => ?_)
  refine lv_iconst (v := nI (0)) hx hb d_Na_moveDown_12 (by decide) ?_
  refine lv_istore (lv' := [(5, .int (nI (0))), (4, .int (nI (L - wh))), (0, .ref (ad (2 * i + 8))), (1, .ref (ad (2 * a + 8))), (2, .int (nI (wh))), (3, .int (nI (pt)))]) hx hb d_Na_moveDown_13 hl (by decide) rfl (fun ls hl => ?_)
  obtain ⟨al, hal⟩ : ∃ al : Nat → Int32, al = fun j => if j < L - wh then sW w a (j + wh) else 0 := ⟨_, rfl⟩
  have hlt : ∀ j, j < L - wh → al j = sW w a (j + wh) := fun j h => by rw [hal]; exact if_pos h
  have hge : ∀ j, ¬ j < L - wh → al j = 0 := fun j h => by rw [hal]; exact if_neg h
  have loop : ∀ (n j : Nat) (f : Nat → Int32) (H : Heap) (locs : List Loc) (ls : Array Slot), j + n = L - wh → vN f 0 j * 2 ^ pt + wN (al 0) % 2 ^ pt = vN (sW w a) wh j + wN (al j) % 2 ^ pt * 4294967296 ^ j → (∀ q, j ≤ q → f q = sW w i q) → va_P D clA (NC cI cB cR ad (pW w i f)) H → va_D (AA ad s.heap.size) (NC cI cB cR ad (pW w i f)) → va_S (AA ad s.heap.size) s.heap H locs → lv_has ls 8 [(5, .int (nI (j))), (4, .int (nI (L - wh))), (0, .ref (ad (2 * i + 8))), (1, .ref (ad (2 * a + 8))), (2, .int (nI (wh))), (3, .int (nI (pt)))] → W p l e (headSpec (q_Na_moveDown :: wA) { frames := 1, cells := 0, slots := 0, locals := 40 }).room s m ([.ref (ad (2 * i + 8)), .ref (ad (2 * a + 8)), .int (nI (wh)), .int (nI (pt))] : List Value).toArray below meth c H locs 0 0 (MQ below (va_Qv (fun w1 : St => eqN w w1 i ∧ NV w1 i (v / 2 ^ (32 * wh + pt))) (BW D cI cB cR ad) (AA ad s.heap.size)) ([.ref (ad (2 * i + 8)), .ref (ad (2 * a + 8)), .int (nI (wh)), .int (nI (pt))] : List Value).toArray s 0 0 (AA ad s.heap.size)) (F0 m 15 ls []) := by
    intro n
    induction n with
    | zero =>
      intro j f H locs ls hj hinv hf hP hD hS hl
      refine lv_iload hx hb d_Na_moveDown_15 (lv_at hl 0 rfl) ?_
      refine lv_iload hx hb d_Na_moveDown_17 (lv_at hl 1 rfl) ?_
      refine lv_icmp_ge (tgt := 93) hx hb d_Na_moveDown_19 (by decide) (fun c19 => ?_) (fun c19 => ?_)
      · skip
        have c19 : L - wh ≤ j := (nI_leI (by omega) (by omega)).mp c19
        have ej : j = L - wh := by omega
        subst ej
        refine lv_aload_n hx hb d_Na_moveDown_93 rfl (lv_at hl 2 rfl) ?_
        refine lv_iload hx hb d_Na_moveDown_94 (lv_at hl 1 rfl) ?_
        refine wV_v (As := [.int (nI (L - wh))]) (rest := []) (n := 1) ⟨hx, hb, hml, hown, hts⟩ (c_Na_trim l (pW w i f) _ (i := i) (n := L - wh) hi (by omega)) (cwV0 1 hts lm_Na_23 im_Na_trim se_Na_trim in_Na kq_Na_trim rfl rfl rfl (by decide +kernel) ⟨Nat.le_of_ble_eq_true rfl, Nat.le_of_ble_eq_true rfl⟩) (recvN hKW.1 hP (i := i) (by omega)) hKW hP hD hS rfl hl.1 rfl (Nat.le_of_ble_eq_true rfl) d_Na_moveDown_96 ⟨Nat.zero_le _, Nat.zero_le _⟩ (fun w1 H locs hp hP hD hS => ?_)
        simp only [sW_pW, pW_pW] at hp
        rw [hge (L - wh) (by omega), wN_0, Nat.zero_mod, Nat.zero_mul, Nat.add_zero] at hinv
        have e2 := md_end (g := sW w a) (L := L) (v := v) (pt := pt) (by rw [hL]; exact hv.2.2) rfl hinv (Nat.mod_lt _ (Nat.pow_pos (by decide)))
        exact W.vret hx hb hr (fun t ht hW => ⟨⟨w1, rfl, ⟨by rw [hp]; exact eqN_tr w i _ _, by rw [hp]; have := NV_tr (w := w) (i := i) (n := L - wh) (f := f) (by omega); rw [e2] at this; exact this⟩, BW_of ht hP⟩, hS.F ht⟩) hS.2.2 d_Na_moveDown_99
      · exact absurd (nI_le (by omega) (by omega)) c19
    | succ n ih =>
      intro j f H locs ls hj hinv hf hP hD hS hl
      refine lv_iload hx hb d_Na_moveDown_15 (lv_at hl 0 rfl) ?_
      refine lv_iload hx hb d_Na_moveDown_17 (lv_at hl 1 rfl) ?_
      refine lv_icmp_ge (tgt := 93) hx hb d_Na_moveDown_19 (by decide) (fun c19 => ?_) (fun c19 => ?_)
      · exact absurd c19 (nI_ge (by omega) (by omega))
      · skip
        refine lv_aload_n hx hb d_Na_moveDown_22 rfl (lv_at hl 3 rfl) ?_
        refine nw_gW hx hb hts hown hKW.1 hP (i := a) (by omega) lf_Na_9 d_Na_moveDown_23 ?_
        refine lv_iload hx hb d_Na_moveDown_26 (lv_at hl 0 rfl) ?_
        refine lv_iload_n hx hb d_Na_moveDown_28 rfl (lv_at hl 4 rfl) ?_
        refine nw_iadd (v := nI (j + wh)) hx hb d_Na_moveDown_29 (nI_add _ _) ?_
        refine nw_lW hx hb hKW.1 hP (i := a) (by omega) (j := j + wh) (by omega) (x := sW w a (j + wh)) (rdX (hf (j + wh) (by omega))) d_Na_moveDown_30 ?_
        refine lv_istore (lv' := [(6, .int (sW w a (j + wh))), (5, .int (nI (j))), (4, .int (nI (L - wh))), (0, .ref (ad (2 * i + 8))), (1, .ref (ad (2 * a + 8))), (2, .int (nI (wh))), (3, .int (nI (pt)))]) hx hb d_Na_moveDown_31 hl (by decide) rfl (fun ls hl => ?_)
        refine lv_iload hx hb d_Na_moveDown_33 (lv_at hl 1 rfl) ?_
        refine lv_iconst (v := nI (1)) hx hb d_Na_moveDown_35 (by decide) ?_
        refine nw_iadd (v := nI (j + 1)) hx hb d_Na_moveDown_36 (nI_add _ _) ?_
        refine lv_iload hx hb d_Na_moveDown_37 (lv_at hl 2 rfl) ?_
        refine lv_icmp_ge (tgt := 56) hx hb d_Na_moveDown_39 (by decide) (fun c39 => ?_) (fun c39 => ?_)
        · skip
          have c39 : L - wh ≤ j + 1 := (nI_leI (by omega) (by omega)).mp c39
          refine lv_iconst (v := nI (0)) hx hb d_Na_moveDown_56 (by decide) ?_
          refine lv_istore (lv' := [(7, .int (nI (0))), (6, .int (sW w a (j + wh))), (5, .int (nI (j))), (4, .int (nI (L - wh))), (0, .ref (ad (2 * i + 8))), (1, .ref (ad (2 * a + 8))), (2, .int (nI (wh))), (3, .int (nI (pt)))]) hx hb d_Na_moveDown_57 hl (by decide) rfl (fun ls hl => ?_)
          refine lv_aload_n hx hb d_Na_moveDown_59 rfl (lv_at hl 4 rfl) ?_
          refine nw_gW hx hb hts hown hKW.1 hP (i := i) (by omega) lf_Na_9 d_Na_moveDown_60 ?_
          refine lv_iload hx hb d_Na_moveDown_63 (lv_at hl 2 rfl) ?_
          refine lv_iload_n hx hb d_Na_moveDown_65 rfl (lv_at hl 7 rfl) ?_
          refine lv_if_ne (tgt := 74) hx hb d_Na_moveDown_66 (by decide) (fun c66 => ?_) (fun c66 => ?_)
          · skip
            have c66 : ¬ (pt = 0) := fun h => c66 (by have := (nI_eq (by omega) (by omega)).mpr h; rwa [nI_0] at this)
            refine lv_iload hx hb d_Na_moveDown_74 (lv_at hl 1 rfl) ?_
            refine lv_iload_n hx hb d_Na_moveDown_76 rfl (lv_at hl 7 rfl) ?_
            refine lv_iushr (v := us (sW w a (j + wh)) pt) hx hb d_Na_moveDown_77 rfl ?_
            refine lv_iload hx hb d_Na_moveDown_78 (lv_at hl 0 rfl) ?_
            refine lv_bipush (v := nI (32)) hx hb d_Na_moveDown_80 (by decide) ?_
            refine lv_iload_n hx hb d_Na_moveDown_82 rfl (lv_at hl 7 rfl) ?_
            refine nw_isub (v := nI (32 - pt)) hx hb d_Na_moveDown_83 (pk_sub (by omega)) ?_
            refine nw_ishl (v := sl (nI 0) (32 - pt)) hx hb d_Na_moveDown_84 rfl ?_
            refine nw_ior (v := (us (sW w a (j + wh)) pt) ||| (sl (nI 0) (32 - pt))) hx hb d_Na_moveDown_85 rfl ?_
            refine nw_sW hx hb hKW.1 hP hD hS (i := i) (by omega) (j := j) (by omega) d_Na_moveDown_86 (fun H locs hP hD hS => ?_)
            refine lv_iinc (v := nI (j + 1)) (lv' := [(5, .int (nI (j + 1))), (7, .int (nI (0))), (6, .int (sW w a (j + wh))), (4, .int (nI (L - wh))), (0, .ref (ad (2 * i + 8))), (1, .ref (ad (2 * a + 8))), (2, .int (nI (wh))), (3, .int (nI (pt)))]) hx hb d_Na_moveDown_87 hl (k := 2) rfl (nI_add _ 1) (by decide) rfl (fun ls hl => ?_)
            refine lv_goto (tgt := 15) hx hb d_Na_moveDown_90 (by decide) ?_
            rw [sW_pW, pW_pW, show (us (sW w a (j + wh)) pt ||| sl (nI 0) (32 - pt)) = dnw pt (sW w a (j + wh)) (nI 0) from (if_neg c66).symm] at hP hD
            exact ih (j + 1) (upd f j (dnw pt (sW w a (j + wh)) (nI 0))) H locs ls (by omega) (by rw [hlt j (by omega)] at hinv; rw [(hge (j + 1) (by omega)).trans nI_0.symm, md_step hpt hinv, vN_succ, Nat.add_comm wh j]) (fun q hq => by rw [pk_un (by omega)]; exact hf q (by omega)) hP hD hS (lv_sub hl [0, 3, 4, 5, 6, 7] rfl)
          · skip
            have c66 : pt = 0 := (nI_eq (by omega) (by omega)).mp (by rw [nI_0]; exact c66)
            refine lv_iload hx hb d_Na_moveDown_69 (lv_at hl 1 rfl) ?_
            refine lv_goto (tgt := 86) hx hb d_Na_moveDown_71 (by decide) ?_
            refine nw_sW hx hb hKW.1 hP hD hS (i := i) (by omega) (j := j) (by omega) d_Na_moveDown_86 (fun H locs hP hD hS => ?_)
            refine lv_iinc (v := nI (j + 1)) (lv' := [(5, .int (nI (j + 1))), (7, .int (nI (0))), (6, .int (sW w a (j + wh))), (4, .int (nI (L - wh))), (0, .ref (ad (2 * i + 8))), (1, .ref (ad (2 * a + 8))), (2, .int (nI (wh))), (3, .int (nI (pt)))]) hx hb d_Na_moveDown_87 hl (k := 2) rfl (nI_add _ 1) (by decide) rfl (fun ls hl => ?_)
            refine lv_goto (tgt := 15) hx hb d_Na_moveDown_90 (by decide) ?_
            rw [sW_pW, pW_pW, show (sW w a (j + wh)) = dnw pt (sW w a (j + wh)) (nI 0) from (if_pos c66).symm] at hP hD
            exact ih (j + 1) (upd f j (dnw pt (sW w a (j + wh)) (nI 0))) H locs ls (by omega) (by rw [hlt j (by omega)] at hinv; rw [(hge (j + 1) (by omega)).trans nI_0.symm, md_step hpt hinv, vN_succ, Nat.add_comm wh j]) (fun q hq => by rw [pk_un (by omega)]; exact hf q (by omega)) hP hD hS (lv_sub hl [0, 3, 4, 5, 6, 7] rfl)
        · skip
          have c39 : ¬ (L - wh ≤ j + 1) := fun h => c39 ((nI_leI (by omega) (by omega)).mpr h)
          refine lv_aload_n hx hb d_Na_moveDown_42 rfl (lv_at hl 4 rfl) ?_
          refine nw_gW hx hb hts hown hKW.1 hP (i := a) (by omega) lf_Na_9 d_Na_moveDown_43 ?_
          refine lv_iload hx hb d_Na_moveDown_46 (lv_at hl 1 rfl) ?_
          refine lv_iload_n hx hb d_Na_moveDown_48 rfl (lv_at hl 5 rfl) ?_
          refine nw_iadd (v := nI (j + wh)) hx hb d_Na_moveDown_49 (nI_add _ _) ?_
          refine lv_iconst (v := nI (1)) hx hb d_Na_moveDown_50 (by decide) ?_
          refine nw_iadd (v := nI (j + wh + 1)) hx hb d_Na_moveDown_51 (nI_add _ _) ?_
          refine nw_lW hx hb hKW.1 hP (i := a) (by omega) (j := j + wh + 1) (by omega) (x := sW w a (j + wh + 1)) (rdX (hf (j + wh + 1) (by omega))) d_Na_moveDown_52 ?_
          refine lv_goto (tgt := 57) hx hb d_Na_moveDown_53 (by decide) ?_
          refine lv_istore (lv' := [(7, .int (sW w a (j + wh + 1))), (6, .int (sW w a (j + wh))), (5, .int (nI (j))), (4, .int (nI (L - wh))), (0, .ref (ad (2 * i + 8))), (1, .ref (ad (2 * a + 8))), (2, .int (nI (wh))), (3, .int (nI (pt)))]) hx hb d_Na_moveDown_57 hl (by decide) rfl (fun ls hl => ?_)
          refine lv_aload_n hx hb d_Na_moveDown_59 rfl (lv_at hl 4 rfl) ?_
          refine nw_gW hx hb hts hown hKW.1 hP (i := i) (by omega) lf_Na_9 d_Na_moveDown_60 ?_
          refine lv_iload hx hb d_Na_moveDown_63 (lv_at hl 2 rfl) ?_
          refine lv_iload_n hx hb d_Na_moveDown_65 rfl (lv_at hl 7 rfl) ?_
          refine lv_if_ne (tgt := 74) hx hb d_Na_moveDown_66 (by decide) (fun c66 => ?_) (fun c66 => ?_)
          · skip
            have c66 : ¬ (pt = 0) := fun h => c66 (by have := (nI_eq (by omega) (by omega)).mpr h; rwa [nI_0] at this)
            refine lv_iload hx hb d_Na_moveDown_74 (lv_at hl 1 rfl) ?_
            refine lv_iload_n hx hb d_Na_moveDown_76 rfl (lv_at hl 7 rfl) ?_
            refine lv_iushr (v := us (sW w a (j + wh)) pt) hx hb d_Na_moveDown_77 rfl ?_
            refine lv_iload hx hb d_Na_moveDown_78 (lv_at hl 0 rfl) ?_
            refine lv_bipush (v := nI (32)) hx hb d_Na_moveDown_80 (by decide) ?_
            refine lv_iload_n hx hb d_Na_moveDown_82 rfl (lv_at hl 7 rfl) ?_
            refine nw_isub (v := nI (32 - pt)) hx hb d_Na_moveDown_83 (pk_sub (by omega)) ?_
            refine nw_ishl (v := sl (sW w a (j + wh + 1)) (32 - pt)) hx hb d_Na_moveDown_84 rfl ?_
            refine nw_ior (v := (us (sW w a (j + wh)) pt) ||| (sl (sW w a (j + wh + 1)) (32 - pt))) hx hb d_Na_moveDown_85 rfl ?_
            refine nw_sW hx hb hKW.1 hP hD hS (i := i) (by omega) (j := j) (by omega) d_Na_moveDown_86 (fun H locs hP hD hS => ?_)
            refine lv_iinc (v := nI (j + 1)) (lv' := [(5, .int (nI (j + 1))), (7, .int (sW w a (j + wh + 1))), (6, .int (sW w a (j + wh))), (4, .int (nI (L - wh))), (0, .ref (ad (2 * i + 8))), (1, .ref (ad (2 * a + 8))), (2, .int (nI (wh))), (3, .int (nI (pt)))]) hx hb d_Na_moveDown_87 hl (k := 2) rfl (nI_add _ 1) (by decide) rfl (fun ls hl => ?_)
            refine lv_goto (tgt := 15) hx hb d_Na_moveDown_90 (by decide) ?_
            rw [sW_pW, pW_pW, show (us (sW w a (j + wh)) pt ||| sl (sW w a (j + wh + 1)) (32 - pt)) = dnw pt (sW w a (j + wh)) (sW w a (j + wh + 1)) from (if_neg c66).symm] at hP hD
            exact ih (j + 1) (upd f j (dnw pt (sW w a (j + wh)) (sW w a (j + wh + 1)))) H locs ls (by omega) (by rw [hlt j (by omega)] at hinv; rw [(hlt (j + 1) (by omega)).trans (show sW w a (j + 1 + wh) = sW w a (j + wh + 1) from congrArg _ (by omega)), md_step hpt hinv, vN_succ, Nat.add_comm wh j]) (fun q hq => by rw [pk_un (by omega)]; exact hf q (by omega)) hP hD hS (lv_sub hl [0, 3, 4, 5, 6, 7] rfl)
          · skip
            have c66 : pt = 0 := (nI_eq (by omega) (by omega)).mp (by rw [nI_0]; exact c66)
            refine lv_iload hx hb d_Na_moveDown_69 (lv_at hl 1 rfl) ?_
            refine lv_goto (tgt := 86) hx hb d_Na_moveDown_71 (by decide) ?_
            refine nw_sW hx hb hKW.1 hP hD hS (i := i) (by omega) (j := j) (by omega) d_Na_moveDown_86 (fun H locs hP hD hS => ?_)
            refine lv_iinc (v := nI (j + 1)) (lv' := [(5, .int (nI (j + 1))), (7, .int (sW w a (j + wh + 1))), (6, .int (sW w a (j + wh))), (4, .int (nI (L - wh))), (0, .ref (ad (2 * i + 8))), (1, .ref (ad (2 * a + 8))), (2, .int (nI (wh))), (3, .int (nI (pt)))]) hx hb d_Na_moveDown_87 hl (k := 2) rfl (nI_add _ 1) (by decide) rfl (fun ls hl => ?_)
            refine lv_goto (tgt := 15) hx hb d_Na_moveDown_90 (by decide) ?_
            rw [sW_pW, pW_pW, show (sW w a (j + wh)) = dnw pt (sW w a (j + wh)) (sW w a (j + wh + 1)) from (if_pos c66).symm] at hP hD
            exact ih (j + 1) (upd f j (dnw pt (sW w a (j + wh)) (sW w a (j + wh + 1)))) H locs ls (by omega) (by rw [hlt j (by omega)] at hinv; rw [(hlt (j + 1) (by omega)).trans (show sW w a (j + 1 + wh) = sW w a (j + wh + 1) from congrArg _ (by omega)), md_step hpt hinv, vN_succ, Nat.add_comm wh j]) (fun q hq => by rw [pk_un (by omega)]; exact hf q (by omega)) hP hD hS (lv_sub hl [0, 3, 4, 5, 6, 7] rfl)
  have e0 : pW w i (sW w i) = w := pW_self w i
  exact loop (L - wh) 0 (sW w i) _ _ ls (by omega) (by show 0 * 2 ^ pt + wN (al 0) % 2 ^ pt = 0 + wN (al 0) % 2 ^ pt * 4294967296 ^ 0; omega) (fun _ _ => rfl) (by rw [e0]; exact hP) (by rw [e0]; exact hD) hS (lv_sub hl [0, 1, 2, 3, 4, 5] rfl)
end
section
/-! PIECES for putMoved, putOnes -/
theorem neg_nI (n : Nat) : - -nI n = nI n := Int32.neg_neg
theorem nI_negT {n : Nat} (h : n < 2 ^ 30) : (-nI n).toInt = -(n : Int) := by
  rw [Int32.toInt_neg, nI_toInt (by omega)]
  show Int.bmod _ (2 ^ 32) = _
  rw [Int.bmod_def]
  omega
theorem neg_ge {n : Nat} (h : n < 2 ^ 30) (hc : ¬ -nI n < 0) : n = 0 := by
  rw [Int32.lt_iff_toInt_lt, nI_negT h] at hc
  have : (0 : Int32).toInt = 0 := by decide
  rw [this] at hc
  omega
theorem wN_neg1 : wN (-1) = 4294967295 := by decide
theorem ones_all {f : Nat → Int32} {n : Nat} (h : ∀ i, i < n → f i = -1) : vN f 0 n + 1 = 4294967296 ^ n := by
  induction n with
  | zero => rfl
  | succ n ih =>
    have := ih (fun i hi => h i (by omega))
    rw [vN_suc0, h n (by omega), wN_neg1, Nat.pow_succ]
    omega
theorem sl_one : ∀ k, k < 32 → wN (sl (nI 1) k - nI 1) = 2 ^ k - 1 := by decide +kernel
theorem ones_val (f : Nat → Int32) (n : Nat) : vN (upd (fl f 0 (n / 32) (-1)) (n / 32) (sl (nI 1) (n % 32) - nI 1)) 0 (n / 32 + 1) = 2 ^ n - 1 := by
  rw [vN_suc0, pk_us, vN_out (Or.inr (by omega)), sl_one _ (Nat.mod_lt _ (by decide))]
  have h := ones_all (f := fl f 0 (n / 32) (-1)) (n := n / 32) (fun i hi => fl_in (Nat.zero_le _) hi)
  have e : 2 ^ n = 2 ^ (n % 32) * 4294967296 ^ (n / 32) := by
    show 2 ^ n = 2 ^ (n % 32) * (2 ^ 32) ^ (n / 32)
    rw [← Nat.pow_mul, ← Nat.pow_add, show n % 32 + 32 * (n / 32) = n by omega]
  have h1 : 1 ≤ 2 ^ (n % 32) := Nat.pow_pos (by decide)
  rw [e]
  generalize 2 ^ (n % 32) = P at *
  generalize 4294967296 ^ (n / 32) = Q at *
  obtain ⟨P', rfl⟩ : ∃ z, P = z + 1 := ⟨P - 1, by omega⟩
  rw [show P' + 1 - 1 = P' by omega, Nat.add_mul, Nat.one_mul]
  omega
end
section
/-! NUMBERS: the contracts of Natural, 8: putMoved, putOnes (rows laid by wip/whole/gen/c_na8.py) -/
set_option maxHeartbeats 4000000 in
set_option maxRecDepth 100000 in
/-- putMoved(a, n), n not below 0 -/
theorem c_Na_putMovedU (l : Launch) {D : va_G} {cI cB cR : ClassId} {ad : Nat → Nat} (w : St) (sz : Nat) {i a v n : Nat} (hi : i < 14) (ha : a < 14) (hv : NV w a v) (hn : n < 2 ^ 30) (hfit : sL w a + n / 32 + 1 ≤ 6272) : Met l y_Na_putMoved (q_Na_putMoved :: wA) { frames := 3, cells := 0, slots := 0, locals := 91 } (va_Pc [.ref (ad (2 * i + 8)), .ref (ad (2 * a + 8)), .int (nI (n))] (PW D cI cB cR ad w sz)) (va_Qv (fun w1 : St => eqN w w1 i ∧ NV w1 i (v * 2 ^ n)) (BW D cI cB cR ad) (AA ad sz)) 0 0 (AA ad sz) := by
  refine Met.ofW (cc := b_Na_putMoved) (maxL := 3) (ret := none) (by decide) rfl ?_
  intro p e s m args below meth c s₁ B hml hv
  obtain ⟨rfl, hsz, hP, hD0, hKW⟩ := hv
  have hx := B.exec
  have hb := B.bytes
  have hr := B.returns
  have hts := atoms_spec (ws := q_Na_putMoved :: wA) B.pre
  have hown : s.vm.findClass R_Na = some m.cls := findClass_of_methodNamed B.named
  have hlocks := B.notSynchronized
  subst hsz
  have hD := NC_AA (sz := s.heap.size) hD0
  have hS : va_S (AA ad s.heap.size) s.heap s.heap [] := va_S.rf
  have hl := lv_entry ([.ref (ad (2 * i + 8)), .ref (ad (2 * a + 8)), .int (nI (n))]) (n := 3) (Nat.le_of_ble_eq_true rfl)
  rw [lg_entry_eq]
  generalize (lg_sl ([.ref (ad (2 * i + 8)), .ref (ad (2 * a + 8)), .int (nI (n))]) ++ List.replicate (3 - (lg_sl ([.ref (ad (2 * i + 8)), .ref (ad (2 * a + 8)), .int (nI (n))])).length) Slot.unset).toArray = ls at hl ⊢
  have hl : lv_has ls 3 [(0, .ref (ad (2 * i + 8))), (1, .ref (ad (2 * a + 8))), (2, .int (nI (n)))] := hl
  refine lv_iload_n hx hb d_Na_putMoved_0 rfl (lv_at hl 2 rfl) ?_
  refine lv_if_lt (tgt := 20) hx hb d_Na_putMoved_1 (by decide) (fun c1 => ?_) (fun c1 => ?_)
  · exact absurd c1 (nI_pos (by omega))
  · skip
    refine lv_aload_n hx hb d_Na_putMoved_4 rfl (lv_at hl 0 rfl) ?_
    refine lv_aload_n hx hb d_Na_putMoved_5 rfl (lv_at hl 1 rfl) ?_
    refine lv_iload_n hx hb d_Na_putMoved_6 rfl (lv_at hl 2 rfl) ?_
    refine lv_bipush (v := nI (32)) hx hb d_Na_putMoved_7 (by decide) ?_
    refine nw_idiv (v := nI (n / 32)) hx hb d_Na_putMoved_9 (nI_ne0 (by omega) (by omega)) (pk_div (by omega) (by omega) (by omega)) ?_
    refine lv_iload_n hx hb d_Na_putMoved_10 rfl (lv_at hl 2 rfl) ?_
    refine lv_bipush (v := nI (32)) hx hb d_Na_putMoved_11 (by decide) ?_
    refine nw_irem (v := nI (n % 32)) hx hb d_Na_putMoved_13 (nI_ne0 (by omega) (by omega)) (pk_rem (by omega) (by omega) (by omega)) ?_
    refine wV_v (As := [.ref (ad (2 * a + 8)), .int (nI (n / 32)), .int (nI (n % 32))]) (rest := []) (n := 3) ⟨hx, hb, hml, hown, hts⟩ (c_Na_moveUp l w _ (i := i) (a := a) (v := v) (wh := n / 32) (pt := n % 32) hi ha hv (by omega) hfit) (cwV0 3 hts lm_Na_35 im_Na_moveUp se_Na_moveUp in_Na kq_Na_moveUp rfl rfl rfl (by decide +kernel) ⟨Nat.le_of_ble_eq_true rfl, Nat.le_of_ble_eq_true rfl⟩) (recvN hKW.1 hP (i := i) (by omega)) hKW hP hD hS rfl hl.1 rfl (Nat.le_of_ble_eq_true rfl) d_Na_putMoved_14 ⟨Nat.zero_le _, Nat.zero_le _⟩ (fun w1 H locs hp hP hD hS => ?_)
    rw [show 32 * (n / 32) + n % 32 = n by omega] at hp
    refine lv_goto (tgt := 35) hx hb d_Na_putMoved_17 (by decide) ?_
    exact W.vret hx hb hr (fun t ht hW => ⟨⟨w1, rfl, hp, BW_of ht hP⟩, hS.F ht⟩) hS.2.2 d_Na_putMoved_35
set_option maxHeartbeats 4000000 in
set_option maxRecDepth 100000 in
/-- putMoved(a, -n), n not below 0 -/
theorem c_Na_putMovedD (l : Launch) {D : va_G} {cI cB cR : ClassId} {ad : Nat → Nat} (w : St) (sz : Nat) {i a v n : Nat} (hi : i < 14) (ha : a < 14) (hv : NV w a v) (hn : n < 2 ^ 30) (hfit : sL w a + 1 ≤ 6272) : Met l y_Na_putMoved (q_Na_putMoved :: wA) { frames := 3, cells := 0, slots := 0, locals := 91 } (va_Pc [.ref (ad (2 * i + 8)), .ref (ad (2 * a + 8)), .int (-nI n)] (PW D cI cB cR ad w sz)) (va_Qv (fun w1 : St => eqN w w1 i ∧ NV w1 i (v / 2 ^ n)) (BW D cI cB cR ad) (AA ad sz)) 0 0 (AA ad sz) := by
  refine Met.ofW (cc := b_Na_putMoved) (maxL := 3) (ret := none) (by decide) rfl ?_
  intro p e s m args below meth c s₁ B hml hv
  obtain ⟨rfl, hsz, hP, hD0, hKW⟩ := hv
  have hx := B.exec
  have hb := B.bytes
  have hr := B.returns
  have hts := atoms_spec (ws := q_Na_putMoved :: wA) B.pre
  have hown : s.vm.findClass R_Na = some m.cls := findClass_of_methodNamed B.named
  have hlocks := B.notSynchronized
  subst hsz
  have hD := NC_AA (sz := s.heap.size) hD0
  have hS : va_S (AA ad s.heap.size) s.heap s.heap [] := va_S.rf
  have hl := lv_entry ([.ref (ad (2 * i + 8)), .ref (ad (2 * a + 8)), .int (-nI n)]) (n := 3) (Nat.le_of_ble_eq_true rfl)
  rw [lg_entry_eq]
  generalize (lg_sl ([.ref (ad (2 * i + 8)), .ref (ad (2 * a + 8)), .int (-nI n)]) ++ List.replicate (3 - (lg_sl ([.ref (ad (2 * i + 8)), .ref (ad (2 * a + 8)), .int (-nI n)])).length) Slot.unset).toArray = ls at hl ⊢
  have hl : lv_has ls 3 [(0, .ref (ad (2 * i + 8))), (1, .ref (ad (2 * a + 8))), (2, .int (-nI n))] := hl
  refine lv_iload_n hx hb d_Na_putMoved_0 rfl (lv_at hl 2 rfl) ?_
  refine lv_if_lt (tgt := 20) hx hb d_Na_putMoved_1 (by decide) (fun c1 => ?_) (fun c1 => ?_)
  · skip
    refine lv_aload_n hx hb d_Na_putMoved_20 rfl (lv_at hl 0 rfl) ?_
    refine lv_aload_n hx hb d_Na_putMoved_21 rfl (lv_at hl 1 rfl) ?_
    refine lv_iload_n hx hb d_Na_putMoved_22 rfl (lv_at hl 2 rfl) ?_
    refine nw_ineg (v := nI (n)) hx hb d_Na_putMoved_23 (neg_nI n) ?_
    refine lv_bipush (v := nI (32)) hx hb d_Na_putMoved_24 (by decide) ?_
    refine nw_idiv (v := nI (n / 32)) hx hb d_Na_putMoved_26 (nI_ne0 (by omega) (by omega)) (pk_div (by omega) (by omega) (by omega)) ?_
    refine lv_iload_n hx hb d_Na_putMoved_27 rfl (lv_at hl 2 rfl) ?_
    refine nw_ineg (v := nI (n)) hx hb d_Na_putMoved_28 (neg_nI n) ?_
    refine lv_bipush (v := nI (32)) hx hb d_Na_putMoved_29 (by decide) ?_
    refine nw_irem (v := nI (n % 32)) hx hb d_Na_putMoved_31 (nI_ne0 (by omega) (by omega)) (pk_rem (by omega) (by omega) (by omega)) ?_
    refine wV_v (As := [.ref (ad (2 * a + 8)), .int (nI (n / 32)), .int (nI (n % 32))]) (rest := []) (n := 3) ⟨hx, hb, hml, hown, hts⟩ (c_Na_moveDown l w _ (i := i) (a := a) (v := v) (wh := n / 32) (pt := n % 32) hi ha hv (by omega) (by omega)) (cwV0 3 hts lm_Na_39 im_Na_moveDown se_Na_moveDown in_Na kq_Na_moveDown rfl rfl rfl (by decide +kernel) ⟨Nat.le_of_ble_eq_true rfl, Nat.le_of_ble_eq_true rfl⟩) (recvN hKW.1 hP (i := i) (by omega)) hKW hP hD hS rfl hl.1 rfl (Nat.le_of_ble_eq_true rfl) d_Na_putMoved_32 ⟨Nat.zero_le _, Nat.zero_le _⟩ (fun w1 H locs hp hP hD hS => ?_)
    rw [show 32 * (n / 32) + n % 32 = n by omega] at hp
    exact W.vret hx hb hr (fun t ht hW => ⟨⟨w1, rfl, hp, BW_of ht hP⟩, hS.F ht⟩) hS.2.2 d_Na_putMoved_35
  · skip
    have hn0 : n = 0 := neg_ge (by omega) c1
    subst hn0
    have hl : lv_has ls 3 [(0, .ref (ad (2 * i + 8))), (1, .ref (ad (2 * a + 8))), (2, .int (nI (0)))] := hl
    refine lv_aload_n hx hb d_Na_putMoved_4 rfl (lv_at hl 0 rfl) ?_
    refine lv_aload_n hx hb d_Na_putMoved_5 rfl (lv_at hl 1 rfl) ?_
    refine lv_iload_n hx hb d_Na_putMoved_6 rfl (lv_at hl 2 rfl) ?_
    refine lv_bipush (v := nI (32)) hx hb d_Na_putMoved_7 (by decide) ?_
    refine nw_idiv (v := nI (0 / 32)) hx hb d_Na_putMoved_9 (nI_ne0 (by omega) (by omega)) (pk_div (by omega) (by omega) (by omega)) ?_
    refine lv_iload_n hx hb d_Na_putMoved_10 rfl (lv_at hl 2 rfl) ?_
    refine lv_bipush (v := nI (32)) hx hb d_Na_putMoved_11 (by decide) ?_
    refine nw_irem (v := nI (0 % 32)) hx hb d_Na_putMoved_13 (nI_ne0 (by omega) (by omega)) (pk_rem (by omega) (by omega) (by omega)) ?_
    refine wV_v (As := [.ref (ad (2 * a + 8)), .int (nI (0 / 32)), .int (nI (0 % 32))]) (rest := []) (n := 3) ⟨hx, hb, hml, hown, hts⟩ (c_Na_moveUp l w _ (i := i) (a := a) (v := v) (wh := 0 / 32) (pt := 0 % 32) hi ha hv (by omega) (by omega)) (cwV0 3 hts lm_Na_35 im_Na_moveUp se_Na_moveUp in_Na kq_Na_moveUp rfl rfl rfl (by decide +kernel) ⟨Nat.le_of_ble_eq_true rfl, Nat.le_of_ble_eq_true rfl⟩) (recvN hKW.1 hP (i := i) (by omega)) hKW hP hD hS rfl hl.1 rfl (Nat.le_of_ble_eq_true rfl) d_Na_putMoved_14 ⟨Nat.zero_le _, Nat.zero_le _⟩ (fun w1 H locs hp hP hD hS => ?_)
    rw [show 32 * (0 / 32) + 0 % 32 = 0 by omega, Nat.pow_zero, Nat.mul_one] at hp
    refine lv_goto (tgt := 35) hx hb d_Na_putMoved_17 (by decide) ?_
    exact W.vret hx hb hr (fun t ht hW => ⟨⟨w1, rfl, ⟨hp.1, by rw [Nat.pow_zero, Nat.div_one]; exact hp.2⟩, BW_of ht hP⟩, hS.F ht⟩) hS.2.2 d_Na_putMoved_35
set_option maxHeartbeats 4000000 in
set_option maxRecDepth 100000 in
/-- putOnes(bits) -/
theorem c_Na_putOnes (l : Launch) {D : va_G} {cI cB cR : ClassId} {ad : Nat → Nat} (w : St) (sz : Nat) {i n : Nat} (hi : i < 14) (hn : n / 32 + 1 ≤ 6272) : Met l y_Na_putOnes (q_Na_putOnes :: wA) { frames := 2, cells := 0, slots := 0, locals := 64 } (va_Pc [.ref (ad (2 * i + 8)), .int (nI (n))] (PW D cI cB cR ad w sz)) (va_Qv (fun w1 : St => eqN w w1 i ∧ NV w1 i (2 ^ n - 1)) (BW D cI cB cR ad) (AA ad sz)) 0 0 (AA ad sz) := by
  refine Met.ofW (cc := b_Na_putOnes) (maxL := 3) (ret := none) (by decide) rfl ?_
  intro p e s m args below meth c s₁ B hml hv
  obtain ⟨rfl, hsz, hP, hD0, hKW⟩ := hv
  have hx := B.exec
  have hb := B.bytes
  have hr := B.returns
  have hts := atoms_spec (ws := q_Na_putOnes :: wA) B.pre
  have hown : s.vm.findClass R_Na = some m.cls := findClass_of_methodNamed B.named
  have hlocks := B.notSynchronized
  subst hsz
  have hD := NC_AA (sz := s.heap.size) hD0
  have hS : va_S (AA ad s.heap.size) s.heap s.heap [] := va_S.rf
  have hl := lv_entry ([.ref (ad (2 * i + 8)), .int (nI (n))]) (n := 3) (Nat.le_of_ble_eq_true rfl)
  rw [lg_entry_eq]
  generalize (lg_sl ([.ref (ad (2 * i + 8)), .int (nI (n))]) ++ List.replicate (3 - (lg_sl ([.ref (ad (2 * i + 8)), .int (nI (n))])).length) Slot.unset).toArray = ls at hl ⊢
  have hl : lv_has ls 3 [(0, .ref (ad (2 * i + 8))), (1, .int (nI (n)))] := hl
  refine lv_iload_n hx hb d_Na_putOnes_0 rfl (lv_at hl 1 rfl) ?_
  refine lv_bipush (v := nI (32)) hx hb d_Na_putOnes_1 (by decide) ?_
  refine nw_idiv (v := nI (n / 32)) hx hb d_Na_putOnes_3 (nI_ne0 (by omega) (by omega)) (pk_div (by omega) (by omega) (by omega)) ?_
  refine lv_istore_n (lv' := [(2, .int (nI (n / 32))), (0, .ref (ad (2 * i + 8))), (1, .int (nI (n)))]) hx hb d_Na_putOnes_4 rfl hl (by decide) rfl (fun ls hl => ?_)
  refine lv_aload_n hx hb d_Na_putOnes_5 rfl (lv_at hl 1 rfl) ?_
  refine nw_gW hx hb hts hown hKW.1 hP (i := i) (by omega) lf_Na_9 d_Na_putOnes_6 ?_
  refine lv_iconst (v := nI (0)) hx hb d_Na_putOnes_9 (by decide) ?_
  refine lv_iload_n hx hb d_Na_putOnes_10 rfl (lv_at hl 0 rfl) ?_
  refine lv_iconst (v := -1) hx hb d_Na_putOnes_11 (by decide) ?_
  refine wS_v (As := [.ref (ad (2 * i + 9)), .int (nI (0)), .int (nI (n / 32)), .int (-1)]) (rest := []) (n := 4) ⟨hx, hb, hml, hown, hts⟩ (c_Ja_fillW l w _ (i := i) (a := 0) (b := n / 32) hi (by omega) (by omega) (-1)) (cwS0 4 hts lm_Na_42 st_Ja_fill in_Ja kq_Ja_fill rfl rfl rfl (by decide +kernel) ⟨Nat.le_of_ble_eq_true rfl, Nat.le_of_ble_eq_true rfl⟩) hKW hP hD hS rfl hl.1 rfl (Nat.le_of_ble_eq_true rfl) d_Na_putOnes_12 ⟨Nat.zero_le _, Nat.zero_le _⟩ (fun w1 H locs hp hP hD hS => ?_)
  rw [hp] at hP hD
  refine lv_aload_n hx hb d_Na_putOnes_15 rfl (lv_at hl 1 rfl) ?_
  refine nw_gW hx hb hts hown hKW.1 hP (i := i) (by omega) lf_Na_9 d_Na_putOnes_16 ?_
  refine lv_iload_n hx hb d_Na_putOnes_19 rfl (lv_at hl 0 rfl) ?_
  refine lv_iconst (v := nI (1)) hx hb d_Na_putOnes_20 (by decide) ?_
  refine lv_iload_n hx hb d_Na_putOnes_21 rfl (lv_at hl 2 rfl) ?_
  refine lv_bipush (v := nI (32)) hx hb d_Na_putOnes_22 (by decide) ?_
  refine nw_irem (v := nI (n % 32)) hx hb d_Na_putOnes_24 (nI_ne0 (by omega) (by omega)) (pk_rem (by omega) (by omega) (by omega)) ?_
  refine nw_ishl (v := sl (nI 1) (n % 32)) hx hb d_Na_putOnes_25 rfl ?_
  refine lv_iconst (v := nI (1)) hx hb d_Na_putOnes_26 (by decide) ?_
  refine nw_isub (v := (sl (nI 1) (n % 32)) - (nI (1))) hx hb d_Na_putOnes_27 rfl ?_
  refine nw_sW hx hb hKW.1 hP hD hS (i := i) (by omega) (j := n / 32) (by omega) d_Na_putOnes_28 (fun H locs hP hD hS => ?_)
  refine lv_aload_n hx hb d_Na_putOnes_29 rfl (lv_at hl 1 rfl) ?_
  refine lv_iload_n hx hb d_Na_putOnes_30 rfl (lv_at hl 0 rfl) ?_
  refine lv_iconst (v := nI (1)) hx hb d_Na_putOnes_31 (by decide) ?_
  refine nw_iadd (v := nI (n / 32 + 1)) hx hb d_Na_putOnes_32 (nI_add _ _) ?_
  refine wV_v (As := [.int (nI (n / 32 + 1))]) (rest := []) (n := 1) ⟨hx, hb, hml, hown, hts⟩ (c_Na_trim l (pW (pW w i (fl (sW w i) 0 (n / 32) (-1))) i (upd (sW (pW w i (fl (sW w i) 0 (n / 32) (-1))) i) (n / 32) ((sl (nI 1) (n % 32)) - (nI (1))))) _ (i := i) (n := n / 32 + 1) hi (by omega)) (cwV0 1 hts lm_Na_23 im_Na_trim se_Na_trim in_Na kq_Na_trim rfl rfl rfl (by decide +kernel) ⟨Nat.le_of_ble_eq_true rfl, Nat.le_of_ble_eq_true rfl⟩) (recvN hKW.1 hP (i := i) (by omega)) hKW hP hD hS rfl hl.1 rfl (Nat.le_of_ble_eq_true rfl) d_Na_putOnes_33 ⟨Nat.zero_le _, Nat.zero_le _⟩ (fun w2 H locs hp hP hD hS => ?_)
  simp only [sW_pW, pW_pW] at hp
  have e2 := ones_val (sW w i) n
  exact W.vret hx hb hr (fun t ht hW => ⟨⟨w2, rfl, ⟨by rw [hp]; exact eqN_tr w i _ _, by rw [hp]; have := NV_tr (w := w) (i := i) (n := n / 32 + 1) (f := upd (fl (sW w i) 0 (n / 32) (-1)) (n / 32) (sl (nI 1) (n % 32) - nI 1)) (by omega); rw [e2] at this; exact this⟩, BW_of ht hP⟩, hS.F ht⟩) hS.2.2 d_Na_putOnes_36
end
section
/-! PIECES for the bench's row -/
/-- f is g outside the n places from a on -/
def so (f g : Nat → Int32) (a n : Nat) : Prop := ∀ q, (q < a ∨ a + n ≤ q) → f q = g q
theorem so_refl (g : Nat → Int32) (a n : Nat) : so g g a n := fun _ _ => rfl
theorem so_upd {f g : Nat → Int32} {a j : Nat} {x : Int32} (h : so f g a j) : so (upd f (a + j) x) g a (j + 1) := fun q hq => by
  rw [pk_un (by omega)]
  exact h q (by omega)
theorem so.wide {f g : Nat → Int32} {a n m : Nat} (h : so f g a n) (hm : n ≤ m) : so f g a m := fun q hq => h q (by omega)
theorem so.vN {f g : Nat → Int32} {a n b m : Nat} (h : so f g a n) (hd : b + m ≤ a ∨ a + n ≤ b) : vN f b m = vN g b m := vN_congr (fun i hi => h _ (by omega))
theorem so.trans {f g h : Nat → Int32} {a n : Nat} (h1 : so f g a n) (h2 : so g h a n) : so f h a n := fun q hq => (h1 q hq).trans (h2 q hq)
theorem vN_sucA (f : Nat → Int32) (a n : Nat) : vN f a (n + 1) = vN f a n + wN (f (a + n)) * 4294967296 ^ n := rfl
theorem pr_bound {x φ : Nat} (hx : x < 4294967296) (hφ : φ < 4294967296) : x * φ ≤ 18446744065119617025 := by
  have : x * φ ≤ 4294967295 * 4294967295 := Nat.mul_le_mul (by omega) (by omega)
  exact this
theorem ap_step {f g : Nat → Int32} {a s j cy φ : Nat} (hinv : vN f a j + cy * 4294967296 ^ j = vN g a j + φ * vN g s j) :
    vN (upd f (a + j) (nI (cy + (wN (g (s + j)) * φ + wN (g (a + j)))))) a (j + 1) + (cy + (wN (g (s + j)) * φ + wN (g (a + j)))) / 4294967296 * 4294967296 ^ (j + 1) = vN g a (j + 1) + φ * vN g s (j + 1) := by
  rw [ch_add hinv, vN_sucA, vN_sucA, Nat.mul_add, Nat.add_mul]
  have e : φ * (wN (g (s + j)) * 4294967296 ^ j) = wN (g (s + j)) * φ * 4294967296 ^ j := by rw [← Nat.mul_assoc, Nat.mul_comm φ]
  omega
theorem lN_low {n : Nat} (h : n < 2 ^ 64) : lN n &&& 4294967295 = lN (n % 4294967296) := by
  apply Int64.toBitVec_inj.mp
  rw [Int64.toBitVec_and, lN_tb, lN_tb]
  apply BitVec.eq_of_toNat_eq
  show (BitVec.ofNat 64 n &&& 4294967295#64).toNat = _
  have e : n &&& 4294967295 = n % 4294967296 := Nat.and_two_pow_sub_one_eq_mod n 32
  rw [BitVec.toNat_and, BitVec.toNat_ofNat, BitVec.toNat_ofNat, BitVec.toNat_ofNat, Nat.mod_eq_of_lt h, show 4294967295 % 2 ^ 64 = 4294967295 from rfl, e]
  omega
/-- the sign of a long, as 0 or 1 -/
def ngN (y m : Nat) : Nat := if y < m then 1 else 0
theorem lZ_sign {y m : Nat} (hy : y < 4294967296) (hm : m < 4294967296) : ((lZ ((y : Int) - (m : Int))).toUInt64 >>> ((nI 63).toInt64.toUInt64 &&& Int64.toUInt64 63)).toInt64 = lN (ngN y m) := by
  unfold ngN
  by_cases h : y < m
  · rw [if_pos h]
    have e : lZ ((y : Int) - (m : Int)) = lN (2 ^ 64 - (m - y)) := by
      apply Int64.toBitVec_inj.mp
      apply BitVec.eq_of_toNat_eq
      show (BitVec.ofInt 64 ((y : Int) - (m : Int))).toNat = (BitVec.ofNat 64 (2 ^ 64 - (m - y))).toNat
      rw [BitVec.toNat_ofInt, BitVec.toNat_ofNat]
      omega
    rw [e, lN_shr (by omega) (by decide)]
    congr 1
    omega
  · rw [if_neg h, ← lZ_pm, lN_sub (by omega), lN_shr (by omega) (by decide)]
    congr 1
    omega
theorem lZ_dw {y m : Nat} (hy : y < 4294967296) (hm : m < 4294967296) : wN (lZ ((y : Int) - (m : Int))).toInt32 + m = y + ngN y m * 4294967296 := by
  have h := lZ_word (z := (y : Int) - (m : Int))
  unfold ngN
  by_cases q : y < m
  · rw [if_pos q]
    omega
  · rw [if_neg q]
    omega
theorem tp_step {f g : Nat → Int32} {a s j o φ : Nat} (hm : wN (g (s + j)) * φ ≤ 18446744065119617025) (ho : o < 4294967296) (hinv : vN f a j + φ * vN g s j = vN g a j + o * 4294967296 ^ j) :
    vN (upd f (a + j) (lZ ((wN (g (a + j)) : Int) - (((o + wN (g (s + j)) * φ) % 4294967296 : Nat) : Int))).toInt32) a (j + 1) + φ * vN g s (j + 1) = vN g a (j + 1) + ((o + wN (g (s + j)) * φ) / 4294967296 + ngN (wN (g (a + j))) ((o + wN (g (s + j)) * φ) % 4294967296)) * 4294967296 ^ (j + 1) := by
  have hd := lZ_dw (wN_lt (g (a + j))) (Nat.mod_lt (o + wN (g (s + j)) * φ) (by decide : 0 < 4294967296))
  rw [vN_push, vN_sucA g s, vN_sucA g a, Nat.pow_succ, Nat.mul_add]
  have h := Nat.div_add_mod (o + wN (g (s + j)) * φ) 4294967296
  have e1 : φ * (wN (g (s + j)) * 4294967296 ^ j) = wN (g (s + j)) * φ * 4294967296 ^ j := by rw [← Nat.mul_assoc, Nat.mul_comm φ]
  rw [e1]
  generalize wN (lZ ((wN (g (a + j)) : Int) - (((o + wN (g (s + j)) * φ) % 4294967296 : Nat) : Int))).toInt32 = d at *
  generalize ngN (wN (g (a + j))) ((o + wN (g (s + j)) * φ) % 4294967296) = b at *
  generalize wN (g (s + j)) * φ = X at *
  generalize (o + X) / 4294967296 = Y at *
  generalize (o + X) % 4294967296 = Z at *
  generalize wN (g (a + j)) = y at *
  generalize 4294967296 ^ j = P at *
  have e2 : (Y + b) * (P * 4294967296) = (4294967296 * Y + b * 4294967296) * P := by
    rw [Nat.mul_comm P, ← Nat.mul_assoc, Nat.add_mul, Nat.mul_comm Y]
  have e3 : (d + Z) * P = (y + b * 4294967296) * P := by rw [hd]
  have e4 : (4294967296 * Y + Z) * P = (o + X) * P := by rw [h]
  rw [e2]
  simp only [Nat.add_mul] at e3 e4 ⊢
  omega
end
section
/-! THE BENCH: the contracts of its word loops, 1 (rows laid by wip/whole/gen/c_be1.py) -/
set_option maxHeartbeats 4000000 in
set_option maxRecDepth 100000 in
/-- addProduct(at, from, count, factor) -/
theorem c_Be_addProduct (l : Launch) {D : va_G} {cI cB cR : ClassId} {ad : Nat → Nat} (w : St) (sz : Nat) {t0 s0 cnt φ : Nat} (h1 : t0 + cnt ≤ 28672) (h2 : s0 + cnt ≤ 28672) (hd : s0 + cnt ≤ t0 ∨ t0 + cnt ≤ s0) (hφ : φ < 4294967296) : Met l y_Be_addProduct (q_Be_addProduct :: wA) { frames := 0, cells := 0, slots := 0, locals := 0 } (va_Pc [.ref (ad 2), .int (nI (t0)), .int (nI (s0)), .int (nI (cnt)), .long (lN (φ))] (PW D cI cB cR ad w sz)) (va_Qi (fun (r : Int32) (w1 : St) => ∃ (f : Nat → Int32) (cy : Nat), w1 = pR w f ∧ r = nI cy ∧ cy < 4294967296 ∧ so f (sR w) t0 cnt ∧ vN f t0 cnt + cy * 4294967296 ^ cnt = vN (sR w) t0 cnt + φ * vN (sR w) s0 cnt) (BW D cI cB cR ad) (AA ad sz)) 0 0 (AA ad sz) := by
  refine Met.ofW (cc := b_Be_addProduct) (maxL := 12) (ret := (some (.int))) (by decide) rfl ?_
  intro p e s m args below meth c s₁ B hml hv
  obtain ⟨rfl, hsz, hP, hD0, hKW⟩ := hv
  have hx := B.exec
  have hb := B.bytes
  have hr := B.returns
  have hts := atoms_spec (ws := q_Be_addProduct :: wA) B.pre
  have hown : s.vm.findClass R_Be = some m.cls := findClass_of_methodNamed B.named
  have hlocks := B.notSynchronized
  subst hsz
  have hD := NC_AA (sz := s.heap.size) hD0
  have hS : va_S (AA ad s.heap.size) s.heap s.heap [] := va_S.rf
  have hl := lv_entry ([.ref (ad 2), .int (nI (t0)), .int (nI (s0)), .int (nI (cnt)), .long (lN (φ))]) (n := 12) (Nat.le_of_ble_eq_true rfl)
  rw [lg_entry_eq]
  generalize (lg_sl ([.ref (ad 2), .int (nI (t0)), .int (nI (s0)), .int (nI (cnt)), .long (lN (φ))]) ++ List.replicate (12 - (lg_sl ([.ref (ad 2), .int (nI (t0)), .int (nI (s0)), .int (nI (cnt)), .long (lN (φ))])).length) Slot.unset).toArray = ls at hl ⊢
  have hl : lv_has ls 12 [(0, .ref (ad 2)), (1, .int (nI (t0))), (2, .int (nI (s0))), (3, .int (nI (cnt))), (4, .long (lN (φ)))] := hl
  refine lv_aload_n hx hb d_Be_addProduct_0 rfl (lv_at hl 0 rfl) ?_
  refine nw_gR hx hb hts hown hKW.1 hP lf_Be_11 d_Be_addProduct_1 ?_
  refine lv_astore (lv' := [(6, .ref (ad 3)), (0, .ref (ad 2)), (1, .int (nI (t0))), (2, .int (nI (s0))), (3, .int (nI (cnt))), (4, .long (lN (φ)))]) hx hb d_Be_addProduct_4 hl (by decide) rfl (fun ls hl => ?_)
  refine lv_iload_n hx hb d_Be_addProduct_6 rfl (lv_at hl 3 rfl) ?_
  refine lv_iload_n hx hb d_Be_addProduct_7 rfl (lv_at hl 4 rfl) ?_
  refine nw_iadd (v := nI (s0 + cnt)) hx hb d_Be_addProduct_8 (nI_add _ _) ?_
  refine lv_istore (lv' := [(7, .int (nI (s0 + cnt))), (6, .ref (ad 3)), (0, .ref (ad 2)), (1, .int (nI (t0))), (2, .int (nI (s0))), (3, .int (nI (cnt))), (4, .long (lN (φ)))]) hx hb d_Be_addProduct_9 hl (by decide) rfl (fun ls hl => ?_)
  refine lv_iload_n hx hb d_Be_addProduct_11 rfl (lv_at hl 3 rfl) ?_
  refine lv_istore (lv' := [(8, .int (nI (t0))), (7, .int (nI (s0 + cnt))), (6, .ref (ad 3)), (0, .ref (ad 2)), (1, .int (nI (t0))), (2, .int (nI (s0))), (3, .int (nI (cnt))), (4, .long (lN (φ)))]) hx hb d_Be_addProduct_12 hl (by decide) rfl (fun ls hl => ?_)
  refine lv_lconst (v := lN (0)) hx hb d_Be_addProduct_14 (by decide) ?_
  refine lv_lstore (lv' := [(9, .long (lN (0))), (8, .int (nI (t0))), (7, .int (nI (s0 + cnt))), (6, .ref (ad 3)), (0, .ref (ad 2)), (1, .int (nI (t0))), (2, .int (nI (s0))), (3, .int (nI (cnt))), (4, .long (lN (φ)))]) hx hb d_Be_addProduct_15 hl (by decide) rfl (fun ls hl => ?_)
  refine lv_iload_n hx hb d_Be_addProduct_17 rfl (lv_at hl 6 rfl) ?_
  refine lv_istore (lv' := [(11, .int (nI (s0))), (9, .long (lN (0))), (8, .int (nI (t0))), (7, .int (nI (s0 + cnt))), (6, .ref (ad 3)), (0, .ref (ad 2)), (1, .int (nI (t0))), (2, .int (nI (s0))), (3, .int (nI (cnt))), (4, .long (lN (φ)))]) hx hb d_Be_addProduct_18 hl (by decide) rfl (fun ls hl => ?_)
  have loop : ∀ (n j : Nat) (f : Nat → Int32) (cy : Nat) (H : Heap) (locs : List Loc) (ls : Array Slot), j + n = cnt → vN f t0 j + cy * 4294967296 ^ j = vN (sR w) t0 j + φ * vN (sR w) s0 j → so f (sR w) t0 j → cy < 4294967296 → va_P D clA (NC cI cB cR ad (pR w f)) H → va_D (AA ad s.heap.size) (NC cI cB cR ad (pR w f)) → va_S (AA ad s.heap.size) s.heap H locs → lv_has ls 12 [(11, .int (nI (s0 + j))), (9, .long (lN (cy))), (8, .int (nI (t0 + j))), (7, .int (nI (s0 + cnt))), (6, .ref (ad 3)), (0, .ref (ad 2)), (1, .int (nI (t0))), (2, .int (nI (s0))), (3, .int (nI (cnt))), (4, .long (lN (φ)))] → W p l e (headSpec (q_Be_addProduct :: wA) { frames := 0, cells := 0, slots := 0, locals := 0 }).room s m ([.ref (ad 2), .int (nI (t0)), .int (nI (s0)), .int (nI (cnt)), .long (lN (φ))] : List Value).toArray below meth c H locs 0 0 (MQ below (va_Qi (fun (r : Int32) (w1 : St) => ∃ (f : Nat → Int32) (cy : Nat), w1 = pR w f ∧ r = nI cy ∧ cy < 4294967296 ∧ so f (sR w) t0 cnt ∧ vN f t0 cnt + cy * 4294967296 ^ cnt = vN (sR w) t0 cnt + φ * vN (sR w) s0 cnt) (BW D cI cB cR ad) (AA ad s.heap.size)) ([.ref (ad 2), .int (nI (t0)), .int (nI (s0)), .int (nI (cnt)), .long (lN (φ))] : List Value).toArray s 0 0 (AA ad s.heap.size)) (F0 m 20 ls []) := by
    intro n
    induction n with
    | zero =>
      intro j f cy H locs ls hj hinv hf hc hP hD hS hl
      refine lv_iload hx hb d_Be_addProduct_20 (lv_at hl 0 rfl) ?_
      refine lv_iload hx hb d_Be_addProduct_22 (lv_at hl 3 rfl) ?_
      refine lv_icmp_ge (tgt := 80) hx hb d_Be_addProduct_24 (by decide) (fun c24 => ?_) (fun c24 => ?_)
      · skip
        have c24 : s0 + cnt ≤ s0 + j := (nI_leI (by omega) (by omega)).mp c24
        have ej : j = cnt := by omega
        subst ej
        refine lv_lload hx hb d_Be_addProduct_80 (lv_at hl 1 rfl) ?_
        refine lv_l2i (v := nI (cy)) hx hb d_Be_addProduct_82 (lN_i _) ?_
        exact W.iret (v := nI (cy)) hx hb hr (fun t ht hW => ⟨⟨_, pR w f, rfl, ⟨f, cy, rfl, rfl, hc, hf, hinv⟩, BW_of ht hP⟩, hS.F ht⟩) hS.2.2 d_Be_addProduct_83
      · exact absurd (nI_le (by omega) (by omega)) c24
    | succ n ih =>
      intro j f cy H locs ls hj hinv hf hc hP hD hS hl
      have hm := pr_bound (wN_lt (sR w (s0 + j))) hφ
      have hy := wN_lt (sR w (t0 + j))
      refine lv_iload hx hb d_Be_addProduct_20 (lv_at hl 0 rfl) ?_
      refine lv_iload hx hb d_Be_addProduct_22 (lv_at hl 3 rfl) ?_
      refine lv_icmp_ge (tgt := 80) hx hb d_Be_addProduct_24 (by decide) (fun c24 => ?_) (fun c24 => ?_)
      · exact absurd c24 (nI_ge (by omega) (by omega))
      · skip
        refine lv_lload hx hb d_Be_addProduct_27 (lv_at hl 1 rfl) ?_
        refine lv_aload hx hb d_Be_addProduct_29 (lv_at hl 4 rfl) ?_
        refine lv_iload hx hb d_Be_addProduct_31 (lv_at hl 0 rfl) ?_
        refine nw_lR hx hb hKW.1 hP (j := s0 + j) (by omega) (x := sR w (s0 + j)) (hf _ (by omega)) d_Be_addProduct_33 ?_
        refine lv_i2l (v := (sR w (s0 + j)).toInt64) hx hb d_Be_addProduct_34 rfl ?_
        refine lv_ldc2 (v := 4294967295) hx hb hown (hA_ hts ll_Be_99) d_Be_addProduct_35 ?_
        refine nw_land (v := lN (wN ((sR w (s0 + j))))) hx hb d_Be_addProduct_38 (lw_low _) ?_
        refine lv_lload hx hb d_Be_addProduct_39 (lv_at hl 9 rfl) ?_
        refine nw_lmul (v := lN ((wN ((sR w (s0 + j)))) * φ)) hx hb d_Be_addProduct_41 (lN_mul _ _) ?_
        refine lv_aload hx hb d_Be_addProduct_42 (lv_at hl 4 rfl) ?_
        refine lv_iload hx hb d_Be_addProduct_44 (lv_at hl 2 rfl) ?_
        refine nw_lR hx hb hKW.1 hP (j := t0 + j) (by omega) (x := sR w (t0 + j)) (hf _ (by omega)) d_Be_addProduct_46 ?_
        refine lv_i2l (v := (sR w (t0 + j)).toInt64) hx hb d_Be_addProduct_47 rfl ?_
        refine lv_ldc2 (v := 4294967295) hx hb hown (hA_ hts ll_Be_99) d_Be_addProduct_48 ?_
        refine nw_land (v := lN (wN ((sR w (t0 + j))))) hx hb d_Be_addProduct_51 (lw_low _) ?_
        refine nw_ladd (v := lN ((wN ((sR w (s0 + j)))) * φ + (wN ((sR w (t0 + j)))))) hx hb d_Be_addProduct_52 (lN_add _ _) ?_
        refine nw_ladd (v := lN (cy + ((wN ((sR w (s0 + j)))) * φ + (wN ((sR w (t0 + j))))))) hx hb d_Be_addProduct_53 (lN_add _ _) ?_
        refine lv_lstore (lv' := [(9, .long (lN (cy + ((wN ((sR w (s0 + j)))) * φ + (wN ((sR w (t0 + j)))))))), (11, .int (nI (s0 + j))), (8, .int (nI (t0 + j))), (7, .int (nI (s0 + cnt))), (6, .ref (ad 3)), (0, .ref (ad 2)), (1, .int (nI (t0))), (2, .int (nI (s0))), (3, .int (nI (cnt))), (4, .long (lN (φ)))]) hx hb d_Be_addProduct_54 hl (by decide) rfl (fun ls hl => ?_)
        refine lv_aload hx hb d_Be_addProduct_56 (lv_at hl 4 rfl) ?_
        refine lv_iload hx hb d_Be_addProduct_58 (lv_at hl 2 rfl) ?_
        refine lv_lload hx hb d_Be_addProduct_60 (lv_at hl 0 rfl) ?_
        refine lv_l2i (v := nI (cy + ((wN ((sR w (s0 + j)))) * φ + (wN ((sR w (t0 + j))))))) hx hb d_Be_addProduct_62 (lN_i _) ?_
        refine nw_sR hx hb hKW.1 hP hD hS (j := t0 + j) (by omega) d_Be_addProduct_63 (fun H locs hP hD hS => ?_)
        refine lv_lload hx hb d_Be_addProduct_64 (lv_at hl 0 rfl) ?_
        refine lv_bipush (v := nI (32)) hx hb d_Be_addProduct_66 (by decide) ?_
        refine lv_lushr (v := lN ((cy + ((wN ((sR w (s0 + j)))) * φ + (wN ((sR w (t0 + j)))))) / 4294967296)) hx hb d_Be_addProduct_68 (lN_shr32 (by omega)) ?_
        refine lv_lstore (lv' := [(9, .long (lN ((cy + ((wN ((sR w (s0 + j)))) * φ + (wN ((sR w (t0 + j)))))) / 4294967296))), (11, .int (nI (s0 + j))), (8, .int (nI (t0 + j))), (7, .int (nI (s0 + cnt))), (6, .ref (ad 3)), (0, .ref (ad 2)), (1, .int (nI (t0))), (2, .int (nI (s0))), (3, .int (nI (cnt))), (4, .long (lN (φ)))]) hx hb d_Be_addProduct_69 hl (by decide) rfl (fun ls hl => ?_)
        refine lv_iinc (v := nI (t0 + j + 1)) (lv' := [(8, .int (nI (t0 + j + 1))), (9, .long (lN ((cy + ((wN ((sR w (s0 + j)))) * φ + (wN ((sR w (t0 + j)))))) / 4294967296))), (11, .int (nI (s0 + j))), (7, .int (nI (s0 + cnt))), (6, .ref (ad 3)), (0, .ref (ad 2)), (1, .int (nI (t0))), (2, .int (nI (s0))), (3, .int (nI (cnt))), (4, .long (lN (φ)))]) hx hb d_Be_addProduct_71 hl (k := 2) rfl (nI_add _ 1) (by decide) rfl (fun ls hl => ?_)
        refine lv_iinc (v := nI (s0 + j + 1)) (lv' := [(11, .int (nI (s0 + j + 1))), (8, .int (nI (t0 + j + 1))), (9, .long (lN ((cy + ((wN ((sR w (s0 + j)))) * φ + (wN ((sR w (t0 + j)))))) / 4294967296))), (7, .int (nI (s0 + cnt))), (6, .ref (ad 3)), (0, .ref (ad 2)), (1, .int (nI (t0))), (2, .int (nI (s0))), (3, .int (nI (cnt))), (4, .long (lN (φ)))]) hx hb d_Be_addProduct_74 hl (k := 2) rfl (nI_add _ 1) (by decide) rfl (fun ls hl => ?_)
        refine lv_goto (tgt := 20) hx hb d_Be_addProduct_77 (by decide) ?_
        exact ih (j + 1) (upd f (t0 + j) (nI (cy + (wN (sR w (s0 + j)) * φ + wN (sR w (t0 + j)))))) ((cy + (wN (sR w (s0 + j)) * φ + wN (sR w (t0 + j)))) / 4294967296) H locs ls (by omega) (ap_step hinv) (so_upd hf) (by omega) hP hD hS (lv_sub hl [0, 2, 1, 3, 4, 5, 6, 7, 8, 9] rfl)
  exact loop cnt 0 (sR w) 0 _ _ ls (by omega) (by show 0 + 0 * 4294967296 ^ 0 = 0 + φ * 0; omega) (so_refl _ _ _) (by omega) hP hD hS (lv_sub hl [0, 1, 2, 3, 4, 5, 6, 7, 8, 9] rfl)
set_option maxHeartbeats 4000000 in
set_option maxRecDepth 100000 in
/-- takeProduct(at, from, count, factor) -/
theorem c_Be_takeProduct (l : Launch) {D : va_G} {cI cB cR : ClassId} {ad : Nat → Nat} (w : St) (sz : Nat) {t0 s0 cnt φ : Nat} (h1 : t0 + cnt ≤ 28672) (h2 : s0 + cnt ≤ 28672) (hd : s0 + cnt ≤ t0 ∨ t0 + cnt ≤ s0) (hφ : φ < 4294967296) : Met l y_Be_takeProduct (q_Be_takeProduct :: wA) { frames := 0, cells := 0, slots := 0, locals := 0 } (va_Pc [.ref (ad 2), .int (nI (t0)), .int (nI (s0)), .int (nI (cnt)), .long (lN (φ))] (PW D cI cB cR ad w sz)) (va_Ql (fun (r : Int64) (w1 : St) => ∃ (f : Nat → Int32) (o : Nat), w1 = pR w f ∧ r = lN o ∧ o < 4294967296 ∧ so f (sR w) t0 cnt ∧ vN f t0 cnt + φ * vN (sR w) s0 cnt = vN (sR w) t0 cnt + o * 4294967296 ^ cnt) (BW D cI cB cR ad) (AA ad sz)) 0 0 (AA ad sz) := by
  refine Met.ofW (cc := b_Be_takeProduct) (maxL := 14) (ret := (some (.long))) (by decide) rfl ?_
  intro p e s m args below meth c s₁ B hml hv
  obtain ⟨rfl, hsz, hP, hD0, hKW⟩ := hv
  have hx := B.exec
  have hb := B.bytes
  have hr := B.returns
  have hts := atoms_spec (ws := q_Be_takeProduct :: wA) B.pre
  have hown : s.vm.findClass R_Be = some m.cls := findClass_of_methodNamed B.named
  have hlocks := B.notSynchronized
  subst hsz
  have hD := NC_AA (sz := s.heap.size) hD0
  have hS : va_S (AA ad s.heap.size) s.heap s.heap [] := va_S.rf
  have hl := lv_entry ([.ref (ad 2), .int (nI (t0)), .int (nI (s0)), .int (nI (cnt)), .long (lN (φ))]) (n := 14) (Nat.le_of_ble_eq_true rfl)
  rw [lg_entry_eq]
  generalize (lg_sl ([.ref (ad 2), .int (nI (t0)), .int (nI (s0)), .int (nI (cnt)), .long (lN (φ))]) ++ List.replicate (14 - (lg_sl ([.ref (ad 2), .int (nI (t0)), .int (nI (s0)), .int (nI (cnt)), .long (lN (φ))])).length) Slot.unset).toArray = ls at hl ⊢
  have hl : lv_has ls 14 [(0, .ref (ad 2)), (1, .int (nI (t0))), (2, .int (nI (s0))), (3, .int (nI (cnt))), (4, .long (lN (φ)))] := hl
  refine lv_aload_n hx hb d_Be_takeProduct_0 rfl (lv_at hl 0 rfl) ?_
  refine nw_gR hx hb hts hown hKW.1 hP lf_Be_11 d_Be_takeProduct_1 ?_
  refine lv_astore (lv' := [(6, .ref (ad 3)), (0, .ref (ad 2)), (1, .int (nI (t0))), (2, .int (nI (s0))), (3, .int (nI (cnt))), (4, .long (lN (φ)))]) hx hb d_Be_takeProduct_4 hl (by decide) rfl (fun ls hl => ?_)
  refine lv_iload_n hx hb d_Be_takeProduct_6 rfl (lv_at hl 3 rfl) ?_
  refine lv_iload_n hx hb d_Be_takeProduct_7 rfl (lv_at hl 4 rfl) ?_
  refine nw_iadd (v := nI (s0 + cnt)) hx hb d_Be_takeProduct_8 (nI_add _ _) ?_
  refine lv_istore (lv' := [(7, .int (nI (s0 + cnt))), (6, .ref (ad 3)), (0, .ref (ad 2)), (1, .int (nI (t0))), (2, .int (nI (s0))), (3, .int (nI (cnt))), (4, .long (lN (φ)))]) hx hb d_Be_takeProduct_9 hl (by decide) rfl (fun ls hl => ?_)
  refine lv_iload_n hx hb d_Be_takeProduct_11 rfl (lv_at hl 3 rfl) ?_
  refine lv_istore (lv' := [(8, .int (nI (t0))), (7, .int (nI (s0 + cnt))), (6, .ref (ad 3)), (0, .ref (ad 2)), (1, .int (nI (t0))), (2, .int (nI (s0))), (3, .int (nI (cnt))), (4, .long (lN (φ)))]) hx hb d_Be_takeProduct_12 hl (by decide) rfl (fun ls hl => ?_)
  refine lv_lconst (v := lN (0)) hx hb d_Be_takeProduct_14 (by decide) ?_
  refine lv_lstore (lv' := [(9, .long (lN (0))), (8, .int (nI (t0))), (7, .int (nI (s0 + cnt))), (6, .ref (ad 3)), (0, .ref (ad 2)), (1, .int (nI (t0))), (2, .int (nI (s0))), (3, .int (nI (cnt))), (4, .long (lN (φ)))]) hx hb d_Be_takeProduct_15 hl (by decide) rfl (fun ls hl => ?_)
  refine lv_iload_n hx hb d_Be_takeProduct_17 rfl (lv_at hl 6 rfl) ?_
  refine lv_istore (lv' := [(11, .int (nI (s0))), (9, .long (lN (0))), (8, .int (nI (t0))), (7, .int (nI (s0 + cnt))), (6, .ref (ad 3)), (0, .ref (ad 2)), (1, .int (nI (t0))), (2, .int (nI (s0))), (3, .int (nI (cnt))), (4, .long (lN (φ)))]) hx hb d_Be_takeProduct_18 hl (by decide) rfl (fun ls hl => ?_)
  have loop : ∀ (n j : Nat) (f : Nat → Int32) (o : Nat) (H : Heap) (locs : List Loc) (ls : Array Slot), j + n = cnt → vN f t0 j + φ * vN (sR w) s0 j = vN (sR w) t0 j + o * 4294967296 ^ j → so f (sR w) t0 j → o < 4294967296 → va_P D clA (NC cI cB cR ad (pR w f)) H → va_D (AA ad s.heap.size) (NC cI cB cR ad (pR w f)) → va_S (AA ad s.heap.size) s.heap H locs → lv_has ls 14 [(11, .int (nI (s0 + j))), (9, .long (lN (o))), (8, .int (nI (t0 + j))), (7, .int (nI (s0 + cnt))), (6, .ref (ad 3)), (0, .ref (ad 2)), (1, .int (nI (t0))), (2, .int (nI (s0))), (3, .int (nI (cnt))), (4, .long (lN (φ)))] → W p l e (headSpec (q_Be_takeProduct :: wA) { frames := 0, cells := 0, slots := 0, locals := 0 }).room s m ([.ref (ad 2), .int (nI (t0)), .int (nI (s0)), .int (nI (cnt)), .long (lN (φ))] : List Value).toArray below meth c H locs 0 0 (MQ below (va_Ql (fun (r : Int64) (w1 : St) => ∃ (f : Nat → Int32) (o : Nat), w1 = pR w f ∧ r = lN o ∧ o < 4294967296 ∧ so f (sR w) t0 cnt ∧ vN f t0 cnt + φ * vN (sR w) s0 cnt = vN (sR w) t0 cnt + o * 4294967296 ^ cnt) (BW D cI cB cR ad) (AA ad s.heap.size)) ([.ref (ad 2), .int (nI (t0)), .int (nI (s0)), .int (nI (cnt)), .long (lN (φ))] : List Value).toArray s 0 0 (AA ad s.heap.size)) (F0 m 20 ls []) := by
    intro n
    induction n with
    | zero =>
      intro j f o H locs ls hj hinv hf hc hP hD hS hl
      refine lv_iload hx hb d_Be_takeProduct_20 (lv_at hl 0 rfl) ?_
      refine lv_iload hx hb d_Be_takeProduct_22 (lv_at hl 3 rfl) ?_
      refine lv_icmp_ge (tgt := 94) hx hb d_Be_takeProduct_24 (by decide) (fun c24 => ?_) (fun c24 => ?_)
      · skip
        have c24 : s0 + cnt ≤ s0 + j := (nI_leI (by omega) (by omega)).mp c24
        have ej : j = cnt := by omega
        subst ej
        refine lv_lload hx hb d_Be_takeProduct_94 (lv_at hl 1 rfl) ?_
        exact W.lret (v := lN (o)) hx hb hr (fun t ht hW => ⟨⟨_, pR w f, rfl, ⟨f, o, rfl, rfl, hc, hf, hinv⟩, BW_of ht hP⟩, hS.F ht⟩) hS.2.2 d_Be_takeProduct_96
      · exact absurd (nI_le (by omega) (by omega)) c24
    | succ n ih =>
      intro j f o H locs ls hj hinv hf hc hP hD hS hl
      have hm := pr_bound (wN_lt (sR w (s0 + j))) hφ
      have hy := wN_lt (sR w (t0 + j))
      refine lv_iload hx hb d_Be_takeProduct_20 (lv_at hl 0 rfl) ?_
      refine lv_iload hx hb d_Be_takeProduct_22 (lv_at hl 3 rfl) ?_
      refine lv_icmp_ge (tgt := 94) hx hb d_Be_takeProduct_24 (by decide) (fun c24 => ?_) (fun c24 => ?_)
      · exact absurd c24 (nI_ge (by omega) (by omega))
      · skip
        refine lv_lload hx hb d_Be_takeProduct_27 (lv_at hl 1 rfl) ?_
        refine lv_aload hx hb d_Be_takeProduct_29 (lv_at hl 4 rfl) ?_
        refine lv_iload hx hb d_Be_takeProduct_31 (lv_at hl 0 rfl) ?_
        refine nw_lR hx hb hKW.1 hP (j := s0 + j) (by omega) (x := sR w (s0 + j)) (hf _ (by omega)) d_Be_takeProduct_33 ?_
        refine lv_i2l (v := (sR w (s0 + j)).toInt64) hx hb d_Be_takeProduct_34 rfl ?_
        refine lv_ldc2 (v := 4294967295) hx hb hown (hA_ hts ll_Be_99) d_Be_takeProduct_35 ?_
        refine nw_land (v := lN (wN ((sR w (s0 + j))))) hx hb d_Be_takeProduct_38 (lw_low _) ?_
        refine lv_lload hx hb d_Be_takeProduct_39 (lv_at hl 9 rfl) ?_
        refine nw_lmul (v := lN ((wN ((sR w (s0 + j)))) * φ)) hx hb d_Be_takeProduct_41 (lN_mul _ _) ?_
        refine nw_ladd (v := lN (o + ((wN ((sR w (s0 + j)))) * φ))) hx hb d_Be_takeProduct_42 (lN_add _ _) ?_
        refine lv_lstore (lv' := [(9, .long (lN (o + ((wN ((sR w (s0 + j)))) * φ)))), (11, .int (nI (s0 + j))), (8, .int (nI (t0 + j))), (7, .int (nI (s0 + cnt))), (6, .ref (ad 3)), (0, .ref (ad 2)), (1, .int (nI (t0))), (2, .int (nI (s0))), (3, .int (nI (cnt))), (4, .long (lN (φ)))]) hx hb d_Be_takeProduct_43 hl (by decide) rfl (fun ls hl => ?_)
        refine lv_aload hx hb d_Be_takeProduct_45 (lv_at hl 4 rfl) ?_
        refine lv_iload hx hb d_Be_takeProduct_47 (lv_at hl 2 rfl) ?_
        refine nw_lR hx hb hKW.1 hP (j := t0 + j) (by omega) (x := sR w (t0 + j)) (hf _ (by omega)) d_Be_takeProduct_49 ?_
        refine lv_i2l (v := (sR w (t0 + j)).toInt64) hx hb d_Be_takeProduct_50 rfl ?_
        refine lv_ldc2 (v := 4294967295) hx hb hown (hA_ hts ll_Be_99) d_Be_takeProduct_51 ?_
        refine nw_land (v := lN (wN ((sR w (t0 + j))))) hx hb d_Be_takeProduct_54 (lw_low _) ?_
        refine lv_lload hx hb d_Be_takeProduct_55 (lv_at hl 0 rfl) ?_
        refine lv_ldc2 (v := 4294967295) hx hb hown (hA_ hts ll_Be_99) d_Be_takeProduct_57 ?_
        refine nw_land (v := lN ((o + wN (sR w (s0 + j)) * φ) % 4294967296)) hx hb d_Be_takeProduct_60 (lN_low (by omega)) ?_
        refine nw_lsub (v := lZ (((wN (sR w (t0 + j)) : Nat) : Int) - (((o + wN (sR w (s0 + j)) * φ) % 4294967296 : Nat) : Int))) hx hb d_Be_takeProduct_61 lZ_pm ?_
        refine lv_lstore (lv' := [(12, .long (lZ (((wN (sR w (t0 + j)) : Nat) : Int) - (((o + wN (sR w (s0 + j)) * φ) % 4294967296 : Nat) : Int)))), (9, .long (lN (o + ((wN ((sR w (s0 + j)))) * φ)))), (11, .int (nI (s0 + j))), (8, .int (nI (t0 + j))), (7, .int (nI (s0 + cnt))), (6, .ref (ad 3)), (0, .ref (ad 2)), (1, .int (nI (t0))), (2, .int (nI (s0))), (3, .int (nI (cnt))), (4, .long (lN (φ)))]) hx hb d_Be_takeProduct_62 hl (by decide) rfl (fun ls hl => ?_)
        refine lv_aload hx hb d_Be_takeProduct_64 (lv_at hl 5 rfl) ?_
        refine lv_iload hx hb d_Be_takeProduct_66 (lv_at hl 3 rfl) ?_
        refine lv_lload hx hb d_Be_takeProduct_68 (lv_at hl 0 rfl) ?_
        refine lv_l2i (v := (lZ (((wN (sR w (t0 + j)) : Nat) : Int) - (((o + wN (sR w (s0 + j)) * φ) % 4294967296 : Nat) : Int))).toInt32) hx hb d_Be_takeProduct_70 rfl ?_
        refine nw_sR hx hb hKW.1 hP hD hS (j := t0 + j) (by omega) d_Be_takeProduct_71 (fun H locs hP hD hS => ?_)
        refine lv_lload hx hb d_Be_takeProduct_72 (lv_at hl 1 rfl) ?_
        refine lv_bipush (v := nI (32)) hx hb d_Be_takeProduct_74 (by decide) ?_
        refine lv_lushr (v := lN ((o + ((wN ((sR w (s0 + j)))) * φ)) / 4294967296)) hx hb d_Be_takeProduct_76 (lN_shr32 (by omega)) ?_
        refine lv_lload hx hb d_Be_takeProduct_77 (lv_at hl 0 rfl) ?_
        refine lv_bipush (v := nI (63)) hx hb d_Be_takeProduct_79 (by decide) ?_
        refine lv_lushr (v := lN (ngN (wN (sR w (t0 + j))) ((o + wN (sR w (s0 + j)) * φ) % 4294967296))) hx hb d_Be_takeProduct_81 (lZ_sign (wN_lt _) (Nat.mod_lt _ (by decide))) ?_
        refine nw_ladd (v := lN ((o + ((wN ((sR w (s0 + j)))) * φ)) / 4294967296 + (ngN (wN (sR w (t0 + j))) ((o + wN (sR w (s0 + j)) * φ) % 4294967296)))) hx hb d_Be_takeProduct_82 (lN_add _ _) ?_
        refine lv_lstore (lv' := [(9, .long (lN ((o + ((wN ((sR w (s0 + j)))) * φ)) / 4294967296 + (ngN (wN (sR w (t0 + j))) ((o + wN (sR w (s0 + j)) * φ) % 4294967296))))), (12, .long (lZ (((wN (sR w (t0 + j)) : Nat) : Int) - (((o + wN (sR w (s0 + j)) * φ) % 4294967296 : Nat) : Int)))), (11, .int (nI (s0 + j))), (8, .int (nI (t0 + j))), (7, .int (nI (s0 + cnt))), (6, .ref (ad 3)), (0, .ref (ad 2)), (1, .int (nI (t0))), (2, .int (nI (s0))), (3, .int (nI (cnt))), (4, .long (lN (φ)))]) hx hb d_Be_takeProduct_83 hl (by decide) rfl (fun ls hl => ?_)
        refine lv_iinc (v := nI (t0 + j + 1)) (lv' := [(8, .int (nI (t0 + j + 1))), (9, .long (lN ((o + ((wN ((sR w (s0 + j)))) * φ)) / 4294967296 + (ngN (wN (sR w (t0 + j))) ((o + wN (sR w (s0 + j)) * φ) % 4294967296))))), (12, .long (lZ (((wN (sR w (t0 + j)) : Nat) : Int) - (((o + wN (sR w (s0 + j)) * φ) % 4294967296 : Nat) : Int)))), (11, .int (nI (s0 + j))), (7, .int (nI (s0 + cnt))), (6, .ref (ad 3)), (0, .ref (ad 2)), (1, .int (nI (t0))), (2, .int (nI (s0))), (3, .int (nI (cnt))), (4, .long (lN (φ)))]) hx hb d_Be_takeProduct_85 hl (k := 3) rfl (nI_add _ 1) (by decide) rfl (fun ls hl => ?_)
        refine lv_iinc (v := nI (s0 + j + 1)) (lv' := [(11, .int (nI (s0 + j + 1))), (8, .int (nI (t0 + j + 1))), (9, .long (lN ((o + ((wN ((sR w (s0 + j)))) * φ)) / 4294967296 + (ngN (wN (sR w (t0 + j))) ((o + wN (sR w (s0 + j)) * φ) % 4294967296))))), (12, .long (lZ (((wN (sR w (t0 + j)) : Nat) : Int) - (((o + wN (sR w (s0 + j)) * φ) % 4294967296 : Nat) : Int)))), (7, .int (nI (s0 + cnt))), (6, .ref (ad 3)), (0, .ref (ad 2)), (1, .int (nI (t0))), (2, .int (nI (s0))), (3, .int (nI (cnt))), (4, .long (lN (φ)))]) hx hb d_Be_takeProduct_88 hl (k := 3) rfl (nI_add _ 1) (by decide) rfl (fun ls hl => ?_)
        refine lv_goto (tgt := 20) hx hb d_Be_takeProduct_91 (by decide) ?_
        have hb2 : (o + wN (sR w (s0 + j)) * φ) / 4294967296 + ngN (wN (sR w (t0 + j))) ((o + wN (sR w (s0 + j)) * φ) % 4294967296) < 4294967296 := by
          unfold ngN
          split <;> omega
        exact ih (j + 1) (upd f (t0 + j) (lZ (((wN (sR w (t0 + j)) : Nat) : Int) - (((o + wN (sR w (s0 + j)) * φ) % 4294967296 : Nat) : Int))).toInt32) ((o + wN (sR w (s0 + j)) * φ) / 4294967296 + ngN (wN (sR w (t0 + j))) ((o + wN (sR w (s0 + j)) * φ) % 4294967296)) H locs ls (by omega) (tp_step hm hc hinv) (so_upd hf) hb2 hP hD hS (lv_sub hl [0, 2, 1, 4, 5, 6, 7, 8, 9, 10] rfl)
  exact loop cnt 0 (sR w) 0 _ _ ls (by omega) (by show 0 + φ * 0 = 0 + 0 * 4294967296 ^ 0; omega) (so_refl _ _ _) (by omega) hP hD hS (lv_sub hl [0, 1, 2, 3, 4, 5, 6, 7, 8, 9] rfl)
end
section
/-! PIECES for the bench's row, 2 -/
theorem ix_sh (a s j : Nat) : nI (a + j) + (nI s - nI a) = nI (s + j) := by
  have h : nI (a + j) = nI a + nI j := (nI_add a j).symm
  rw [h, Int32.add_comm (nI a), Int32.add_assoc, Int32.add_comm (nI a) (nI s - nI a), Int32.sub_add_cancel, nI_add, Nat.add_comm]
theorem so.ge {f g : Nat → Int32} {a j : Nat} (h : so f g a j) : ∀ q, a + j ≤ q → f q = g q := fun q hq => h q (Or.inr hq)
theorem vN_tailA {f g : Nat → Int32} {a j n : Nat} (hj : j ≤ n) (h : ∀ q, a + j ≤ q → f q = g q) {x y : Nat} (he : vN f a j + x = vN g a j + y) : vN f a n + x = vN g a n + y := by
  obtain ⟨d, rfl⟩ : ∃ d, n = j + d := ⟨n - j, by omega⟩
  rw [vN_add f a j d, vN_add g a j d, vN_congr (f := f) (g := g) (a := a + j) (b := a + j) (n := d) (fun i hi => h _ (by omega))]
  omega
theorem ai_step {f g : Nat → Int32} {a s j cy : Nat} (hinv : vN f a j + cy * 4294967296 ^ j = vN g a j + vN g s j) :
    vN (upd f (a + j) (nI (cy + (wN (g (a + j)) + wN (g (s + j)))))) a (j + 1) + (cy + (wN (g (a + j)) + wN (g (s + j)))) / 4294967296 * 4294967296 ^ (j + 1) = vN g a (j + 1) + vN g s (j + 1) := by
  rw [ch_add hinv, vN_sucA, vN_sucA, Nat.add_mul]
  omega
theorem ai_step2 {f g : Nat → Int32} {a j cy U : Nat} (hinv : vN f a j + cy * 4294967296 ^ j = vN g a j + U) :
    vN (upd f (a + j) (nI (cy + wN (g (a + j))))) a (j + 1) + (cy + wN (g (a + j))) / 4294967296 * 4294967296 ^ (j + 1) = vN g a (j + 1) + U := by
  rw [ch_add hinv, vN_sucA]
  omega
theorem sbA_lt (f : Nat → Int32) (a j : Nat) : ((vN f a (j + 1) : Nat) : Int) = (vN f a j : Int) + (wN (f (a + j)) : Int) * 4294967296 ^ j := by
  rw [vN_sucA, Int.natCast_add, Int.natCast_mul, Int.natCast_pow]
  rfl
theorem tf_step {f g : Nat → Int32} {a s j : Nat} {o : Int} (hinv : (vN f a j : Int) + o * 4294967296 ^ j = (vN g a j : Int) - (vN g s j : Int)) :
    (vN (upd f (a + j) (lZ (o + ((wN (g (a + j)) : Int) - (wN (g (s + j)) : Int)))).toInt32) a (j + 1) : Int) + (o + ((wN (g (a + j)) : Int) - (wN (g (s + j)) : Int))) / 4294967296 * 4294967296 ^ (j + 1) = (vN g a (j + 1) : Int) - (vN g s (j + 1) : Int) := by
  rw [ch_addZ hinv, sbA_lt, sbA_lt, Int.sub_mul]
  omega
theorem tf_step2 {f g : Nat → Int32} {a j U : Nat} {o : Int} (hinv : (vN f a j : Int) + o * 4294967296 ^ j = (vN g a j : Int) - (U : Int)) :
    (vN (upd f (a + j) (lZ (o + (wN (g (a + j)) : Int))).toInt32) a (j + 1) : Int) + (o + (wN (g (a + j)) : Int)) / 4294967296 * 4294967296 ^ (j + 1) = (vN g a (j + 1) : Int) - (U : Int) := by
  rw [ch_addZ hinv, sbA_lt]
  omega
theorem lZ_addN (z : Int) (n : Nat) : lZ z + lN n = lZ (z + (n : Int)) := by rw [lZ_N, lZ_add]
/-- what is owed, as 0 or 1 -/
def ow (o : Int) : Nat := if o = 0 then 0 else 1
theorem ow_le (o : Int) : ow o ≤ 1 := by unfold ow; split <;> omega
theorem ow_neg {o : Int} (h : o = 0 ∨ o = -1) : (-(lZ o)).toInt32 = nI (ow o) := by
  rcases h with e | e <;> subst e <;> decide
theorem ow_ne {o : Int} (h : o = 0 ∨ o = -1) (hz : lZ o = lN 0) : o = 0 := by
  rcases h with e | e
  · exact e
  · subst e
    exact absurd hz (by decide)
theorem ow_end {f g : Nat → Int32} {a n U : Nat} {o : Int} (ho : o = 0 ∨ o = -1) (h : (vN f a n : Int) + o * 4294967296 ^ n = (vN g a n : Int) - (U : Int)) : vN f a n + U = vN g a n + ow o * 4294967296 ^ n := by
  have e : ((ow o * 4294967296 ^ n : Nat) : Int) = -(o * 4294967296 ^ n) := by
    rw [Int.natCast_mul, Int.natCast_pow]
    rcases ho with q | q <;> subst q
    · show (0 : Int) * _ = _
      omega
    · show (1 : Int) * (4294967296 : Int) ^ n = _
      omega
  omega
theorem ow_tail {f g : Nat → Int32} {a j n U : Nat} (hj : j ≤ n) (hs : so f g a j) (h : (vN f a j : Int) + 0 * 4294967296 ^ j = (vN g a j : Int) - (U : Int)) : vN f a n + U = vN g a n + 0 := by
  have h2 : vN f a j + U = vN g a j + 0 := by omega
  exact vN_tailA hj hs.ge h2
theorem t1_eq {x : Int32} (h : x - nI 1 = -1) : x = 0 := by
  have := congrArg (fun z => z + nI 1) h
  simp only [Int32.sub_add_cancel] at this
  rw [this]
  decide
theorem t1_step0 {f g : Nat → Int32} {a j : Nat} (hinv : vN f a j + 1 = vN g a j + 4294967296 ^ j) (hx : g (a + j) - nI 1 = -1) : vN (upd f (a + j) (g (a + j) - nI 1)) a (j + 1) + 1 = vN g a (j + 1) + 4294967296 ^ (j + 1) := by
  rw [vN_push, vN_sucA, hx, t1_eq hx, wN_neg1, wN_0, Nat.pow_succ]
  omega
theorem t1_step1 {f g : Nat → Int32} {a j n : Nat} (hj : j + 1 ≤ n) (hs : so f g a j) (hinv : vN f a j + 1 = vN g a j + 4294967296 ^ j) (hx : ¬ g (a + j) - nI 1 = -1) : vN (upd f (a + j) (g (a + j) - nI 1)) a n + 1 = vN g a n + 0 := by
  have h0 : g (a + j) ≠ 0 := fun q => hx (by rw [q]; decide)
  refine vN_tailA (j := j + 1) hj (so_upd hs).ge ?_
  have h7 := wN_dec h0
  rw [vN_push, vN_sucA]
  generalize wN (g (a + j) - nI 1) = z at *
  rw [← h7, Nat.add_mul]
  omega
theorem dn_lexA {f g : Nat → Int32} {a b L k : Nat} (hk : k < L) (he : ∀ j, k < j → j < L → f (a + j) = g (b + j)) (h : wN (f (a + k)) < wN (g (b + k))) : vN f a L < vN g b L := by
  have := dn_lex (f := fun j => f (a + j)) (g := fun j => g (b + j)) hk he h
  rw [vN_congr (f := f) (g := fun j => f (a + j)) (a := a) (b := 0) (n := L) (fun i hi => by rw [Nat.zero_add]), vN_congr (f := g) (g := fun j => g (b + j)) (a := b) (b := 0) (n := L) (fun i hi => by rw [Nat.zero_add])]
  exact this
end
section
/-! THE BENCH: the contracts of its word loops, 2 (rows laid by wip/whole/gen/c_be2.py) -/
set_option maxHeartbeats 4000000 in
set_option maxRecDepth 100000 in
/-- addInto(at, atCount, from, count) -/
theorem c_Be_addInto (l : Launch) {D : va_G} {cI cB cR : ClassId} {ad : Nat → Nat} (w : St) (sz : Nat) {t0 tc s0 cnt : Nat} (h1 : t0 + tc ≤ 28672) (h2 : s0 + cnt ≤ 28672) (hcn : cnt ≤ tc) (hd : s0 + cnt ≤ t0 ∨ t0 + cnt ≤ s0) : Met l y_Be_addInto (q_Be_addInto :: wA) { frames := 0, cells := 0, slots := 0, locals := 0 } (va_Pc [.ref (ad 2), .int (nI (t0)), .int (nI (tc)), .int (nI (s0)), .int (nI (cnt))] (PW D cI cB cR ad w sz)) (va_Qi (fun (r : Int32) (w1 : St) => ∃ (f : Nat → Int32) (cy : Nat), w1 = pR w f ∧ r = nI cy ∧ cy ≤ 1 ∧ so f (sR w) t0 tc ∧ vN f t0 tc + cy * 4294967296 ^ tc = vN (sR w) t0 tc + vN (sR w) s0 cnt) (BW D cI cB cR ad) (AA ad sz)) 0 0 (AA ad sz) := by
  refine Met.ofW (cc := b_Be_addInto) (maxL := 11) (ret := (some (.int))) (by decide) rfl ?_
  intro p e s m args below meth c s₁ B hml hv
  obtain ⟨rfl, hsz, hP, hD0, hKW⟩ := hv
  have hx := B.exec
  have hb := B.bytes
  have hr := B.returns
  have hts := atoms_spec (ws := q_Be_addInto :: wA) B.pre
  have hown : s.vm.findClass R_Be = some m.cls := findClass_of_methodNamed B.named
  have hlocks := B.notSynchronized
  subst hsz
  have hD := NC_AA (sz := s.heap.size) hD0
  have hS : va_S (AA ad s.heap.size) s.heap s.heap [] := va_S.rf
  have hl := lv_entry ([.ref (ad 2), .int (nI (t0)), .int (nI (tc)), .int (nI (s0)), .int (nI (cnt))]) (n := 11) (Nat.le_of_ble_eq_true rfl)
  rw [lg_entry_eq]
  generalize (lg_sl ([.ref (ad 2), .int (nI (t0)), .int (nI (tc)), .int (nI (s0)), .int (nI (cnt))]) ++ List.replicate (11 - (lg_sl ([.ref (ad 2), .int (nI (t0)), .int (nI (tc)), .int (nI (s0)), .int (nI (cnt))])).length) Slot.unset).toArray = ls at hl ⊢
  have hl : lv_has ls 11 [(0, .ref (ad 2)), (1, .int (nI (t0))), (2, .int (nI (tc))), (3, .int (nI (s0))), (4, .int (nI (cnt)))] := hl
  refine lv_aload_n hx hb d_Be_addInto_0 rfl (lv_at hl 0 rfl) ?_
  refine nw_gR hx hb hts hown hKW.1 hP lf_Be_11 d_Be_addInto_1 ?_
  refine lv_astore (lv' := [(5, .ref (ad 3)), (0, .ref (ad 2)), (1, .int (nI (t0))), (2, .int (nI (tc))), (3, .int (nI (s0))), (4, .int (nI (cnt)))]) hx hb d_Be_addInto_4 hl (by decide) rfl (fun ls hl => ?_)
  refine lv_iload_n hx hb d_Be_addInto_6 rfl (lv_at hl 4 rfl) ?_
  refine lv_iload_n hx hb d_Be_addInto_7 rfl (lv_at hl 2 rfl) ?_
  refine nw_isub (v := nI s0 - nI t0) hx hb d_Be_addInto_8 rfl ?_
  refine lv_istore (lv' := [(6, .int (nI s0 - nI t0)), (5, .ref (ad 3)), (0, .ref (ad 2)), (1, .int (nI (t0))), (2, .int (nI (tc))), (3, .int (nI (s0))), (4, .int (nI (cnt)))]) hx hb d_Be_addInto_9 hl (by decide) rfl (fun ls hl => ?_)
  refine lv_iload_n hx hb d_Be_addInto_11 rfl (lv_at hl 3 rfl) ?_
  refine lv_iload hx hb d_Be_addInto_12 (lv_at hl 6 rfl) ?_
  refine nw_iadd (v := nI (t0 + cnt)) hx hb d_Be_addInto_14 (nI_add _ _) ?_
  refine lv_istore (lv' := [(7, .int (nI (t0 + cnt))), (6, .int (nI s0 - nI t0)), (5, .ref (ad 3)), (0, .ref (ad 2)), (1, .int (nI (t0))), (2, .int (nI (tc))), (3, .int (nI (s0))), (4, .int (nI (cnt)))]) hx hb d_Be_addInto_15 hl (by decide) rfl (fun ls hl => ?_)
  refine lv_lconst (v := lN (0)) hx hb d_Be_addInto_17 (by decide) ?_
  refine lv_lstore (lv' := [(8, .long (lN (0))), (7, .int (nI (t0 + cnt))), (6, .int (nI s0 - nI t0)), (5, .ref (ad 3)), (0, .ref (ad 2)), (1, .int (nI (t0))), (2, .int (nI (tc))), (3, .int (nI (s0))), (4, .int (nI (cnt)))]) hx hb d_Be_addInto_18 hl (by decide) rfl (fun ls hl => ?_)
  refine lv_iload_n hx hb d_Be_addInto_20 rfl (lv_at hl 5 rfl) ?_
  refine lv_istore (lv' := [(10, .int (nI (t0))), (8, .long (lN (0))), (7, .int (nI (t0 + cnt))), (6, .int (nI s0 - nI t0)), (5, .ref (ad 3)), (0, .ref (ad 2)), (1, .int (nI (t0))), (2, .int (nI (tc))), (3, .int (nI (s0))), (4, .int (nI (cnt)))]) hx hb d_Be_addInto_21 hl (by decide) rfl (fun ls hl => ?_)
  have loop2 : ∀ (n j : Nat) (f : Nat → Int32) (cy : Nat) (H : Heap) (locs : List Loc) (ls : Array Slot), j + n = tc → vN f t0 j + cy * 4294967296 ^ j = vN (sR w) t0 j + vN (sR w) s0 cnt → so f (sR w) t0 j → cy ≤ 1 → va_P D clA (NC cI cB cR ad (pR w f)) H → va_D (AA ad s.heap.size) (NC cI cB cR ad (pR w f)) → va_S (AA ad s.heap.size) s.heap H locs → lv_has ls 11 [(10, .int (nI (t0 + j))), (8, .long (lN (cy))), (7, .int (nI (t0 + cnt))), (6, .int (nI s0 - nI t0)), (5, .ref (ad 3)), (0, .ref (ad 2)), (1, .int (nI (t0))), (2, .int (nI (tc))), (3, .int (nI (s0))), (4, .int (nI (cnt)))] → W p l e (headSpec (q_Be_addInto :: wA) { frames := 0, cells := 0, slots := 0, locals := 0 }).room s m ([.ref (ad 2), .int (nI (t0)), .int (nI (tc)), .int (nI (s0)), .int (nI (cnt))] : List Value).toArray below meth c H locs 0 0 (MQ below (va_Qi (fun (r : Int32) (w1 : St) => ∃ (f : Nat → Int32) (cy : Nat), w1 = pR w f ∧ r = nI cy ∧ cy ≤ 1 ∧ so f (sR w) t0 tc ∧ vN f t0 tc + cy * 4294967296 ^ tc = vN (sR w) t0 tc + vN (sR w) s0 cnt) (BW D cI cB cR ad) (AA ad s.heap.size)) ([.ref (ad 2), .int (nI (t0)), .int (nI (tc)), .int (nI (s0)), .int (nI (cnt))] : List Value).toArray s 0 0 (AA ad s.heap.size)) (F0 m 84 ls []) := by
    intro n
    induction n with
    | zero =>
      intro j f cy H locs ls hj hinv hf hc hP hD hS hl
      refine lv_iload hx hb d_Be_addInto_84 (lv_at hl 0 rfl) ?_
      refine lv_iload_n hx hb d_Be_addInto_86 rfl (lv_at hl 6 rfl) ?_
      refine lv_iload_n hx hb d_Be_addInto_87 rfl (lv_at hl 7 rfl) ?_
      refine nw_iadd (v := nI (t0 + tc)) hx hb d_Be_addInto_88 (nI_add _ _) ?_
      refine lv_icmp_ge (tgt := 135) hx hb d_Be_addInto_89 (by decide) (fun c89 => ?_) (fun c89 => ?_)
      · skip
        have c89 : t0 + tc ≤ t0 + j := (nI_leI (by omega) (by omega)).mp c89
        have ej : j = tc := by omega
        subst ej
        refine lv_lload hx hb d_Be_addInto_135 (lv_at hl 1 rfl) ?_
        refine lv_l2i (v := nI (cy)) hx hb d_Be_addInto_137 (lN_i _) ?_
        exact W.iret (v := nI (cy)) hx hb hr (fun t ht hW => ⟨⟨_, pR w f, rfl, ⟨f, cy, rfl, rfl, hc, hf, hinv⟩, BW_of ht hP⟩, hS.F ht⟩) hS.2.2 d_Be_addInto_138
      · exact absurd (nI_le (by omega) (by omega)) c89
    | succ n ih =>
      intro j f cy H locs ls hj hinv hf hc hP hD hS hl
      have hy := wN_lt (sR w (t0 + j))
      refine lv_iload hx hb d_Be_addInto_84 (lv_at hl 0 rfl) ?_
      refine lv_iload_n hx hb d_Be_addInto_86 rfl (lv_at hl 6 rfl) ?_
      refine lv_iload_n hx hb d_Be_addInto_87 rfl (lv_at hl 7 rfl) ?_
      refine nw_iadd (v := nI (t0 + tc)) hx hb d_Be_addInto_88 (nI_add _ _) ?_
      refine lv_icmp_ge (tgt := 135) hx hb d_Be_addInto_89 (by decide) (fun c89 => ?_) (fun c89 => ?_)
      · exact absurd c89 (nI_ge (by omega) (by omega))
      · skip
        refine lv_lload hx hb d_Be_addInto_92 (lv_at hl 1 rfl) ?_
        refine lv_lconst (v := lN (0)) hx hb d_Be_addInto_94 (by decide) ?_
        refine W.lcmp hx hb d_Be_addInto_95 ?_
        refine lv_if_eq (tgt := 135) hx hb d_Be_addInto_96 (by decide) (fun c96 => ?_) (fun c96 => ?_)
        · skip
          have c96 : cy = 0 := (pk_lEQ (by omega) (by decide)).mp ((lg_cmp_eq _ _).mp c96)
          subst c96
          refine lv_lload hx hb d_Be_addInto_135 (lv_at hl 1 rfl) ?_
          refine lv_l2i (v := nI (0)) hx hb d_Be_addInto_137 (lN_i _) ?_
          exact W.iret (v := nI (0)) hx hb hr (fun t ht hW => ⟨⟨_, pR w f, rfl, ⟨f, 0, rfl, rfl, by omega, hf.wide (by omega), by rw [Nat.zero_mul]; exact vN_tailA (by omega) hf.ge (by omega)⟩, BW_of ht hP⟩, hS.F ht⟩) hS.2.2 d_Be_addInto_138
        · skip
          refine lv_lload hx hb d_Be_addInto_99 (lv_at hl 1 rfl) ?_
          refine lv_aload hx hb d_Be_addInto_101 (lv_at hl 4 rfl) ?_
          refine lv_iload hx hb d_Be_addInto_103 (lv_at hl 0 rfl) ?_
          refine nw_lR hx hb hKW.1 hP (j := t0 + j) (by omega) (x := sR w (t0 + j)) (hf _ (by omega)) d_Be_addInto_105 ?_
          refine lv_i2l (v := (sR w (t0 + j)).toInt64) hx hb d_Be_addInto_106 rfl ?_
          refine lv_ldc2 (v := 4294967295) hx hb hown (hA_ hts ll_Be_99) d_Be_addInto_107 ?_
          refine nw_land (v := lN (wN ((sR w (t0 + j))))) hx hb d_Be_addInto_110 (lw_low _) ?_
          refine nw_ladd (v := lN (cy + (wN ((sR w (t0 + j)))))) hx hb d_Be_addInto_111 (lN_add _ _) ?_
          refine lv_lstore (lv' := [(8, .long (lN (cy + (wN ((sR w (t0 + j))))))), (10, .int (nI (t0 + j))), (7, .int (nI (t0 + cnt))), (6, .int (nI s0 - nI t0)), (5, .ref (ad 3)), (0, .ref (ad 2)), (1, .int (nI (t0))), (2, .int (nI (tc))), (3, .int (nI (s0))), (4, .int (nI (cnt)))]) hx hb d_Be_addInto_112 hl (by decide) rfl (fun ls hl => ?_)
          refine lv_aload hx hb d_Be_addInto_114 (lv_at hl 4 rfl) ?_
          refine lv_iload hx hb d_Be_addInto_116 (lv_at hl 1 rfl) ?_
          refine lv_lload hx hb d_Be_addInto_118 (lv_at hl 0 rfl) ?_
          refine lv_l2i (v := nI (cy + (wN ((sR w (t0 + j)))))) hx hb d_Be_addInto_120 (lN_i _) ?_
          refine nw_sR hx hb hKW.1 hP hD hS (j := t0 + j) (by omega) d_Be_addInto_121 (fun H locs hP hD hS => ?_)
          refine lv_lload hx hb d_Be_addInto_122 (lv_at hl 0 rfl) ?_
          refine lv_bipush (v := nI (32)) hx hb d_Be_addInto_124 (by decide) ?_
          refine lv_lushr (v := lN ((cy + (wN ((sR w (t0 + j))))) / 4294967296)) hx hb d_Be_addInto_126 (lN_shr32 (by omega)) ?_
          refine lv_lstore (lv' := [(8, .long (lN ((cy + (wN ((sR w (t0 + j))))) / 4294967296))), (10, .int (nI (t0 + j))), (7, .int (nI (t0 + cnt))), (6, .int (nI s0 - nI t0)), (5, .ref (ad 3)), (0, .ref (ad 2)), (1, .int (nI (t0))), (2, .int (nI (tc))), (3, .int (nI (s0))), (4, .int (nI (cnt)))]) hx hb d_Be_addInto_127 hl (by decide) rfl (fun ls hl => ?_)
          refine lv_iinc (v := nI (t0 + j + 1)) (lv' := [(10, .int (nI (t0 + j + 1))), (8, .long (lN ((cy + (wN ((sR w (t0 + j))))) / 4294967296))), (7, .int (nI (t0 + cnt))), (6, .int (nI s0 - nI t0)), (5, .ref (ad 3)), (0, .ref (ad 2)), (1, .int (nI (t0))), (2, .int (nI (tc))), (3, .int (nI (s0))), (4, .int (nI (cnt)))]) hx hb d_Be_addInto_129 hl (k := 1) rfl (nI_add _ 1) (by decide) rfl (fun ls hl => ?_)
          refine lv_goto (tgt := 84) hx hb d_Be_addInto_132 (by decide) ?_
          exact ih (j + 1) (upd f (t0 + j) (nI (cy + wN (sR w (t0 + j))))) ((cy + wN (sR w (t0 + j))) / 4294967296) H locs ls (by omega) (ai_step2 hinv) (so_upd hf) (by omega) hP hD hS (lv_sub hl [0, 1, 2, 3, 4, 5, 6, 7, 8, 9] rfl)
  have loop1 : ∀ (n j : Nat) (f : Nat → Int32) (cy : Nat) (H : Heap) (locs : List Loc) (ls : Array Slot), j + n = cnt → vN f t0 j + cy * 4294967296 ^ j = vN (sR w) t0 j + vN (sR w) s0 j → so f (sR w) t0 j → cy ≤ 1 → va_P D clA (NC cI cB cR ad (pR w f)) H → va_D (AA ad s.heap.size) (NC cI cB cR ad (pR w f)) → va_S (AA ad s.heap.size) s.heap H locs → lv_has ls 11 [(10, .int (nI (t0 + j))), (8, .long (lN (cy))), (7, .int (nI (t0 + cnt))), (6, .int (nI s0 - nI t0)), (5, .ref (ad 3)), (0, .ref (ad 2)), (1, .int (nI (t0))), (2, .int (nI (tc))), (3, .int (nI (s0))), (4, .int (nI (cnt)))] → W p l e (headSpec (q_Be_addInto :: wA) { frames := 0, cells := 0, slots := 0, locals := 0 }).room s m ([.ref (ad 2), .int (nI (t0)), .int (nI (tc)), .int (nI (s0)), .int (nI (cnt))] : List Value).toArray below meth c H locs 0 0 (MQ below (va_Qi (fun (r : Int32) (w1 : St) => ∃ (f : Nat → Int32) (cy : Nat), w1 = pR w f ∧ r = nI cy ∧ cy ≤ 1 ∧ so f (sR w) t0 tc ∧ vN f t0 tc + cy * 4294967296 ^ tc = vN (sR w) t0 tc + vN (sR w) s0 cnt) (BW D cI cB cR ad) (AA ad s.heap.size)) ([.ref (ad 2), .int (nI (t0)), .int (nI (tc)), .int (nI (s0)), .int (nI (cnt))] : List Value).toArray s 0 0 (AA ad s.heap.size)) (F0 m 23 ls []) := by
    intro n
    induction n with
    | zero =>
      intro j f cy H locs ls hj hinv hf hc hP hD hS hl
      refine lv_iload hx hb d_Be_addInto_23 (lv_at hl 0 rfl) ?_
      refine lv_iload hx hb d_Be_addInto_25 (lv_at hl 2 rfl) ?_
      refine lv_icmp_ge (tgt := 80) hx hb d_Be_addInto_27 (by decide) (fun c27 => ?_) (fun c27 => ?_)
      · skip
        have c27 : t0 + cnt ≤ t0 + j := (nI_leI (by omega) (by omega)).mp c27
        have ej : cnt = j := by omega
        subst ej
        refine lv_iload hx hb d_Be_addInto_80 (lv_at hl 2 rfl) ?_
        refine lv_istore (lv' := [(10, .int (nI (t0 + cnt))), (8, .long (lN (cy))), (7, .int (nI (t0 + cnt))), (6, .int (nI s0 - nI t0)), (5, .ref (ad 3)), (0, .ref (ad 2)), (1, .int (nI (t0))), (2, .int (nI (tc))), (3, .int (nI (s0))), (4, .int (nI (cnt)))]) hx hb d_Be_addInto_82 hl (by decide) rfl (fun ls hl => ?_)
        exact loop2 (tc - cnt) cnt f cy H locs ls (by omega) hinv hf hc hP hD hS (lv_sub hl [0, 1, 2, 3, 4, 5, 6, 7, 8, 9] rfl)
      · exact absurd (nI_le (by omega) (by omega)) c27
    | succ n ih =>
      intro j f cy H locs ls hj hinv hf hc hP hD hS hl
      have hy := wN_lt (sR w (t0 + j))
      have hz := wN_lt (sR w (s0 + j))
      refine lv_iload hx hb d_Be_addInto_23 (lv_at hl 0 rfl) ?_
      refine lv_iload hx hb d_Be_addInto_25 (lv_at hl 2 rfl) ?_
      refine lv_icmp_ge (tgt := 80) hx hb d_Be_addInto_27 (by decide) (fun c27 => ?_) (fun c27 => ?_)
      · exact absurd c27 (nI_ge (by omega) (by omega))
      · skip
        refine lv_lload hx hb d_Be_addInto_30 (lv_at hl 1 rfl) ?_
        refine lv_aload hx hb d_Be_addInto_32 (lv_at hl 4 rfl) ?_
        refine lv_iload hx hb d_Be_addInto_34 (lv_at hl 0 rfl) ?_
        refine nw_lR hx hb hKW.1 hP (j := t0 + j) (by omega) (x := sR w (t0 + j)) (hf _ (by omega)) d_Be_addInto_36 ?_
        refine lv_i2l (v := (sR w (t0 + j)).toInt64) hx hb d_Be_addInto_37 rfl ?_
        refine lv_ldc2 (v := 4294967295) hx hb hown (hA_ hts ll_Be_99) d_Be_addInto_38 ?_
        refine nw_land (v := lN (wN ((sR w (t0 + j))))) hx hb d_Be_addInto_41 (lw_low _) ?_
        refine lv_aload hx hb d_Be_addInto_42 (lv_at hl 4 rfl) ?_
        refine lv_iload hx hb d_Be_addInto_44 (lv_at hl 0 rfl) ?_
        refine lv_iload hx hb d_Be_addInto_46 (lv_at hl 3 rfl) ?_
        refine nw_iadd (v := nI (s0 + j)) hx hb d_Be_addInto_48 (ix_sh _ _ _) ?_
        refine nw_lR hx hb hKW.1 hP (j := s0 + j) (by omega) (x := sR w (s0 + j)) (hf _ (by omega)) d_Be_addInto_49 ?_
        refine lv_i2l (v := (sR w (s0 + j)).toInt64) hx hb d_Be_addInto_50 rfl ?_
        refine lv_ldc2 (v := 4294967295) hx hb hown (hA_ hts ll_Be_99) d_Be_addInto_51 ?_
        refine nw_land (v := lN (wN ((sR w (s0 + j))))) hx hb d_Be_addInto_54 (lw_low _) ?_
        refine nw_ladd (v := lN (wN ((sR w (t0 + j))) + (wN ((sR w (s0 + j)))))) hx hb d_Be_addInto_55 (lN_add _ _) ?_
        refine nw_ladd (v := lN (cy + (wN ((sR w (t0 + j))) + (wN ((sR w (s0 + j))))))) hx hb d_Be_addInto_56 (lN_add _ _) ?_
        refine lv_lstore (lv' := [(8, .long (lN (cy + (wN ((sR w (t0 + j))) + (wN ((sR w (s0 + j)))))))), (10, .int (nI (t0 + j))), (7, .int (nI (t0 + cnt))), (6, .int (nI s0 - nI t0)), (5, .ref (ad 3)), (0, .ref (ad 2)), (1, .int (nI (t0))), (2, .int (nI (tc))), (3, .int (nI (s0))), (4, .int (nI (cnt)))]) hx hb d_Be_addInto_57 hl (by decide) rfl (fun ls hl => ?_)
        refine lv_aload hx hb d_Be_addInto_59 (lv_at hl 4 rfl) ?_
        refine lv_iload hx hb d_Be_addInto_61 (lv_at hl 1 rfl) ?_
        refine lv_lload hx hb d_Be_addInto_63 (lv_at hl 0 rfl) ?_
        refine lv_l2i (v := nI (cy + (wN ((sR w (t0 + j))) + (wN ((sR w (s0 + j))))))) hx hb d_Be_addInto_65 (lN_i _) ?_
        refine nw_sR hx hb hKW.1 hP hD hS (j := t0 + j) (by omega) d_Be_addInto_66 (fun H locs hP hD hS => ?_)
        refine lv_lload hx hb d_Be_addInto_67 (lv_at hl 0 rfl) ?_
        refine lv_bipush (v := nI (32)) hx hb d_Be_addInto_69 (by decide) ?_
        refine lv_lushr (v := lN ((cy + (wN ((sR w (t0 + j))) + (wN ((sR w (s0 + j)))))) / 4294967296)) hx hb d_Be_addInto_71 (lN_shr32 (by omega)) ?_
        refine lv_lstore (lv' := [(8, .long (lN ((cy + (wN ((sR w (t0 + j))) + (wN ((sR w (s0 + j)))))) / 4294967296))), (10, .int (nI (t0 + j))), (7, .int (nI (t0 + cnt))), (6, .int (nI s0 - nI t0)), (5, .ref (ad 3)), (0, .ref (ad 2)), (1, .int (nI (t0))), (2, .int (nI (tc))), (3, .int (nI (s0))), (4, .int (nI (cnt)))]) hx hb d_Be_addInto_72 hl (by decide) rfl (fun ls hl => ?_)
        refine lv_iinc (v := nI (t0 + j + 1)) (lv' := [(10, .int (nI (t0 + j + 1))), (8, .long (lN ((cy + (wN ((sR w (t0 + j))) + (wN ((sR w (s0 + j)))))) / 4294967296))), (7, .int (nI (t0 + cnt))), (6, .int (nI s0 - nI t0)), (5, .ref (ad 3)), (0, .ref (ad 2)), (1, .int (nI (t0))), (2, .int (nI (tc))), (3, .int (nI (s0))), (4, .int (nI (cnt)))]) hx hb d_Be_addInto_74 hl (k := 1) rfl (nI_add _ 1) (by decide) rfl (fun ls hl => ?_)
        refine lv_goto (tgt := 23) hx hb d_Be_addInto_77 (by decide) ?_
        exact ih (j + 1) (upd f (t0 + j) (nI (cy + (wN (sR w (t0 + j)) + wN (sR w (s0 + j)))))) ((cy + (wN (sR w (t0 + j)) + wN (sR w (s0 + j)))) / 4294967296) H locs ls (by omega) (ai_step hinv) (so_upd hf) (by omega) hP hD hS (lv_sub hl [0, 1, 2, 3, 4, 5, 6, 7, 8, 9] rfl)
  exact loop1 cnt 0 (sR w) 0 _ _ ls (by omega) (by show 0 + 0 * 4294967296 ^ 0 = 0 + 0; omega) (so_refl _ _ _) (by omega) hP hD hS (lv_sub hl [0, 1, 2, 3, 4, 5, 6, 7, 8, 9] rfl)
set_option maxHeartbeats 4000000 in
set_option maxRecDepth 100000 in
/-- takeFrom(at, atCount, from, count) -/
theorem c_Be_takeFrom (l : Launch) {D : va_G} {cI cB cR : ClassId} {ad : Nat → Nat} (w : St) (sz : Nat) {t0 tc s0 cnt : Nat} (h1 : t0 + tc ≤ 28672) (h2 : s0 + cnt ≤ 28672) (hcn : cnt ≤ tc) (hd : s0 + cnt ≤ t0 ∨ t0 + cnt ≤ s0) : Met l y_Be_takeFrom (q_Be_takeFrom :: wA) { frames := 0, cells := 0, slots := 0, locals := 0 } (va_Pc [.ref (ad 2), .int (nI (t0)), .int (nI (tc)), .int (nI (s0)), .int (nI (cnt))] (PW D cI cB cR ad w sz)) (va_Qi (fun (r : Int32) (w1 : St) => ∃ (f : Nat → Int32) (o : Nat), w1 = pR w f ∧ r = nI o ∧ o ≤ 1 ∧ so f (sR w) t0 tc ∧ vN f t0 tc + vN (sR w) s0 cnt = vN (sR w) t0 tc + o * 4294967296 ^ tc) (BW D cI cB cR ad) (AA ad sz)) 0 0 (AA ad sz) := by
  refine Met.ofW (cc := b_Be_takeFrom) (maxL := 11) (ret := (some (.int))) (by decide) rfl ?_
  intro p e s m args below meth c s₁ B hml hv
  obtain ⟨rfl, hsz, hP, hD0, hKW⟩ := hv
  have hx := B.exec
  have hb := B.bytes
  have hr := B.returns
  have hts := atoms_spec (ws := q_Be_takeFrom :: wA) B.pre
  have hown : s.vm.findClass R_Be = some m.cls := findClass_of_methodNamed B.named
  have hlocks := B.notSynchronized
  subst hsz
  have hD := NC_AA (sz := s.heap.size) hD0
  have hS : va_S (AA ad s.heap.size) s.heap s.heap [] := va_S.rf
  have hl := lv_entry ([.ref (ad 2), .int (nI (t0)), .int (nI (tc)), .int (nI (s0)), .int (nI (cnt))]) (n := 11) (Nat.le_of_ble_eq_true rfl)
  rw [lg_entry_eq]
  generalize (lg_sl ([.ref (ad 2), .int (nI (t0)), .int (nI (tc)), .int (nI (s0)), .int (nI (cnt))]) ++ List.replicate (11 - (lg_sl ([.ref (ad 2), .int (nI (t0)), .int (nI (tc)), .int (nI (s0)), .int (nI (cnt))])).length) Slot.unset).toArray = ls at hl ⊢
  have hl : lv_has ls 11 [(0, .ref (ad 2)), (1, .int (nI (t0))), (2, .int (nI (tc))), (3, .int (nI (s0))), (4, .int (nI (cnt)))] := hl
  refine lv_aload_n hx hb d_Be_takeFrom_0 rfl (lv_at hl 0 rfl) ?_
  refine nw_gR hx hb hts hown hKW.1 hP lf_Be_11 d_Be_takeFrom_1 ?_
  refine lv_astore (lv' := [(5, .ref (ad 3)), (0, .ref (ad 2)), (1, .int (nI (t0))), (2, .int (nI (tc))), (3, .int (nI (s0))), (4, .int (nI (cnt)))]) hx hb d_Be_takeFrom_4 hl (by decide) rfl (fun ls hl => ?_)
  refine lv_iload_n hx hb d_Be_takeFrom_6 rfl (lv_at hl 4 rfl) ?_
  refine lv_iload_n hx hb d_Be_takeFrom_7 rfl (lv_at hl 2 rfl) ?_
  refine nw_isub (v := nI s0 - nI t0) hx hb d_Be_takeFrom_8 rfl ?_
  refine lv_istore (lv' := [(6, .int (nI s0 - nI t0)), (5, .ref (ad 3)), (0, .ref (ad 2)), (1, .int (nI (t0))), (2, .int (nI (tc))), (3, .int (nI (s0))), (4, .int (nI (cnt)))]) hx hb d_Be_takeFrom_9 hl (by decide) rfl (fun ls hl => ?_)
  refine lv_iload_n hx hb d_Be_takeFrom_11 rfl (lv_at hl 3 rfl) ?_
  refine lv_iload hx hb d_Be_takeFrom_12 (lv_at hl 6 rfl) ?_
  refine nw_iadd (v := nI (t0 + cnt)) hx hb d_Be_takeFrom_14 (nI_add _ _) ?_
  refine lv_istore (lv' := [(7, .int (nI (t0 + cnt))), (6, .int (nI s0 - nI t0)), (5, .ref (ad 3)), (0, .ref (ad 2)), (1, .int (nI (t0))), (2, .int (nI (tc))), (3, .int (nI (s0))), (4, .int (nI (cnt)))]) hx hb d_Be_takeFrom_15 hl (by decide) rfl (fun ls hl => ?_)
  refine lv_lconst (v := lN (0)) hx hb d_Be_takeFrom_17 (by decide) ?_
  refine lv_lstore (lv' := [(8, .long (lN (0))), (7, .int (nI (t0 + cnt))), (6, .int (nI s0 - nI t0)), (5, .ref (ad 3)), (0, .ref (ad 2)), (1, .int (nI (t0))), (2, .int (nI (tc))), (3, .int (nI (s0))), (4, .int (nI (cnt)))]) hx hb d_Be_takeFrom_18 hl (by decide) rfl (fun ls hl => ?_)
  refine lv_iload_n hx hb d_Be_takeFrom_20 rfl (lv_at hl 5 rfl) ?_
  refine lv_istore (lv' := [(10, .int (nI (t0))), (8, .long (lN (0))), (7, .int (nI (t0 + cnt))), (6, .int (nI s0 - nI t0)), (5, .ref (ad 3)), (0, .ref (ad 2)), (1, .int (nI (t0))), (2, .int (nI (tc))), (3, .int (nI (s0))), (4, .int (nI (cnt)))]) hx hb d_Be_takeFrom_21 hl (by decide) rfl (fun ls hl => ?_)
  have loop2 : ∀ (n j : Nat) (f : Nat → Int32) (o : Int) (H : Heap) (locs : List Loc) (ls : Array Slot), j + n = tc → ((vN f t0 j : Nat) : Int) + o * 4294967296 ^ j = ((vN (sR w) t0 j : Nat) : Int) - ((vN (sR w) s0 cnt : Nat) : Int) → so f (sR w) t0 j → (o = 0 ∨ o = -1) → va_P D clA (NC cI cB cR ad (pR w f)) H → va_D (AA ad s.heap.size) (NC cI cB cR ad (pR w f)) → va_S (AA ad s.heap.size) s.heap H locs → lv_has ls 11 [(10, .int (nI (t0 + j))), (8, .long (lZ (o))), (7, .int (nI (t0 + cnt))), (6, .int (nI s0 - nI t0)), (5, .ref (ad 3)), (0, .ref (ad 2)), (1, .int (nI (t0))), (2, .int (nI (tc))), (3, .int (nI (s0))), (4, .int (nI (cnt)))] → W p l e (headSpec (q_Be_takeFrom :: wA) { frames := 0, cells := 0, slots := 0, locals := 0 }).room s m ([.ref (ad 2), .int (nI (t0)), .int (nI (tc)), .int (nI (s0)), .int (nI (cnt))] : List Value).toArray below meth c H locs 0 0 (MQ below (va_Qi (fun (r : Int32) (w1 : St) => ∃ (f : Nat → Int32) (o : Nat), w1 = pR w f ∧ r = nI o ∧ o ≤ 1 ∧ so f (sR w) t0 tc ∧ vN f t0 tc + vN (sR w) s0 cnt = vN (sR w) t0 tc + o * 4294967296 ^ tc) (BW D cI cB cR ad) (AA ad s.heap.size)) ([.ref (ad 2), .int (nI (t0)), .int (nI (tc)), .int (nI (s0)), .int (nI (cnt))] : List Value).toArray s 0 0 (AA ad s.heap.size)) (F0 m 84 ls []) := by
    intro n
    induction n with
    | zero =>
      intro j f o H locs ls hj hinv hf hc hP hD hS hl
      refine lv_iload hx hb d_Be_takeFrom_84 (lv_at hl 0 rfl) ?_
      refine lv_iload_n hx hb d_Be_takeFrom_86 rfl (lv_at hl 6 rfl) ?_
      refine lv_iload_n hx hb d_Be_takeFrom_87 rfl (lv_at hl 7 rfl) ?_
      refine nw_iadd (v := nI (t0 + tc)) hx hb d_Be_takeFrom_88 (nI_add _ _) ?_
      refine lv_icmp_ge (tgt := 135) hx hb d_Be_takeFrom_89 (by decide) (fun c89 => ?_) (fun c89 => ?_)
      · skip
        have c89 : t0 + tc ≤ t0 + j := (nI_leI (by omega) (by omega)).mp c89
        have ej : j = tc := by omega
        subst ej
        refine lv_lload hx hb d_Be_takeFrom_135 (lv_at hl 1 rfl) ?_
        refine nw_lneg (v := -(lZ (o))) hx hb d_Be_takeFrom_137 rfl ?_
        refine lv_l2i (v := nI (ow o)) hx hb d_Be_takeFrom_138 (ow_neg hc) ?_
        exact W.iret (v := nI (ow o)) hx hb hr (fun t ht hW => ⟨⟨_, pR w f, rfl, ⟨f, ow o, rfl, rfl, ow_le o, hf, ow_end hc hinv⟩, BW_of ht hP⟩, hS.F ht⟩) hS.2.2 d_Be_takeFrom_139
      · exact absurd (nI_le (by omega) (by omega)) c89
    | succ n ih =>
      intro j f o H locs ls hj hinv hf hc hP hD hS hl
      have hy := wN_lt (sR w (t0 + j))
      refine lv_iload hx hb d_Be_takeFrom_84 (lv_at hl 0 rfl) ?_
      refine lv_iload_n hx hb d_Be_takeFrom_86 rfl (lv_at hl 6 rfl) ?_
      refine lv_iload_n hx hb d_Be_takeFrom_87 rfl (lv_at hl 7 rfl) ?_
      refine nw_iadd (v := nI (t0 + tc)) hx hb d_Be_takeFrom_88 (nI_add _ _) ?_
      refine lv_icmp_ge (tgt := 135) hx hb d_Be_takeFrom_89 (by decide) (fun c89 => ?_) (fun c89 => ?_)
      · exact absurd c89 (nI_ge (by omega) (by omega))
      · skip
        refine lv_lload hx hb d_Be_takeFrom_92 (lv_at hl 1 rfl) ?_
        refine lv_lconst (v := lN (0)) hx hb d_Be_takeFrom_94 (by decide) ?_
        refine W.lcmp hx hb d_Be_takeFrom_95 ?_
        refine lv_if_eq (tgt := 135) hx hb d_Be_takeFrom_96 (by decide) (fun c96 => ?_) (fun c96 => ?_)
        · skip
          have c96 : o = 0 := ow_ne hc ((lg_cmp_eq _ _).mp c96)
          subst c96
          refine lv_lload hx hb d_Be_takeFrom_135 (lv_at hl 1 rfl) ?_
          refine nw_lneg (v := -(lZ (0))) hx hb d_Be_takeFrom_137 rfl ?_
          refine lv_l2i (v := nI (ow 0)) hx hb d_Be_takeFrom_138 (ow_neg hc) ?_
          exact W.iret (v := nI (ow 0)) hx hb hr (fun t ht hW => ⟨⟨_, pR w f, rfl, ⟨f, 0, rfl, rfl, by omega, hf.wide (by omega), by rw [Nat.zero_mul]; exact ow_tail (by omega) hf hinv⟩, BW_of ht hP⟩, hS.F ht⟩) hS.2.2 d_Be_takeFrom_139
        · skip
          refine lv_lload hx hb d_Be_takeFrom_99 (lv_at hl 1 rfl) ?_
          refine lv_aload hx hb d_Be_takeFrom_101 (lv_at hl 4 rfl) ?_
          refine lv_iload hx hb d_Be_takeFrom_103 (lv_at hl 0 rfl) ?_
          refine nw_lR hx hb hKW.1 hP (j := t0 + j) (by omega) (x := sR w (t0 + j)) (hf _ (by omega)) d_Be_takeFrom_105 ?_
          refine lv_i2l (v := (sR w (t0 + j)).toInt64) hx hb d_Be_takeFrom_106 rfl ?_
          refine lv_ldc2 (v := 4294967295) hx hb hown (hA_ hts ll_Be_99) d_Be_takeFrom_107 ?_
          refine nw_land (v := lN (wN ((sR w (t0 + j))))) hx hb d_Be_takeFrom_110 (lw_low _) ?_
          refine nw_ladd (v := lZ (o + ((wN (sR w (t0 + j)) : Nat) : Int))) hx hb d_Be_takeFrom_111 (lZ_addN _ _) ?_
          refine lv_lstore (lv' := [(8, .long (lZ (o + ((wN (sR w (t0 + j)) : Nat) : Int)))), (10, .int (nI (t0 + j))), (7, .int (nI (t0 + cnt))), (6, .int (nI s0 - nI t0)), (5, .ref (ad 3)), (0, .ref (ad 2)), (1, .int (nI (t0))), (2, .int (nI (tc))), (3, .int (nI (s0))), (4, .int (nI (cnt)))]) hx hb d_Be_takeFrom_112 hl (by decide) rfl (fun ls hl => ?_)
          refine lv_aload hx hb d_Be_takeFrom_114 (lv_at hl 4 rfl) ?_
          refine lv_iload hx hb d_Be_takeFrom_116 (lv_at hl 1 rfl) ?_
          refine lv_lload hx hb d_Be_takeFrom_118 (lv_at hl 0 rfl) ?_
          refine lv_l2i (v := (lZ (o + ((wN (sR w (t0 + j)) : Nat) : Int))).toInt32) hx hb d_Be_takeFrom_120 rfl ?_
          refine nw_sR hx hb hKW.1 hP hD hS (j := t0 + j) (by omega) d_Be_takeFrom_121 (fun H locs hP hD hS => ?_)
          refine lv_lload hx hb d_Be_takeFrom_122 (lv_at hl 0 rfl) ?_
          refine lv_bipush (v := nI (32)) hx hb d_Be_takeFrom_124 (by decide) ?_
          refine lv_lshr (v := lZ ((o + ((wN (sR w (t0 + j)) : Nat) : Int)) / 4294967296)) hx hb d_Be_takeFrom_126 (lZ_shr (by omega) (by omega)) ?_
          refine lv_lstore (lv' := [(8, .long (lZ ((o + ((wN (sR w (t0 + j)) : Nat) : Int)) / 4294967296))), (10, .int (nI (t0 + j))), (7, .int (nI (t0 + cnt))), (6, .int (nI s0 - nI t0)), (5, .ref (ad 3)), (0, .ref (ad 2)), (1, .int (nI (t0))), (2, .int (nI (tc))), (3, .int (nI (s0))), (4, .int (nI (cnt)))]) hx hb d_Be_takeFrom_127 hl (by decide) rfl (fun ls hl => ?_)
          refine lv_iinc (v := nI (t0 + j + 1)) (lv' := [(10, .int (nI (t0 + j + 1))), (8, .long (lZ ((o + ((wN (sR w (t0 + j)) : Nat) : Int)) / 4294967296))), (7, .int (nI (t0 + cnt))), (6, .int (nI s0 - nI t0)), (5, .ref (ad 3)), (0, .ref (ad 2)), (1, .int (nI (t0))), (2, .int (nI (tc))), (3, .int (nI (s0))), (4, .int (nI (cnt)))]) hx hb d_Be_takeFrom_129 hl (k := 1) rfl (nI_add _ 1) (by decide) rfl (fun ls hl => ?_)
          refine lv_goto (tgt := 84) hx hb d_Be_takeFrom_132 (by decide) ?_
          exact ih (j + 1) (upd f (t0 + j) (lZ (o + ((wN (sR w (t0 + j)) : Nat) : Int))).toInt32) ((o + ((wN (sR w (t0 + j)) : Nat) : Int)) / 4294967296) H locs ls (by omega) (tf_step2 hinv) (so_upd hf) (by omega) hP hD hS (lv_sub hl [0, 1, 2, 3, 4, 5, 6, 7, 8, 9] rfl)
  have loop1 : ∀ (n j : Nat) (f : Nat → Int32) (o : Int) (H : Heap) (locs : List Loc) (ls : Array Slot), j + n = cnt → ((vN f t0 j : Nat) : Int) + o * 4294967296 ^ j = ((vN (sR w) t0 j : Nat) : Int) - ((vN (sR w) s0 j : Nat) : Int) → so f (sR w) t0 j → (o = 0 ∨ o = -1) → va_P D clA (NC cI cB cR ad (pR w f)) H → va_D (AA ad s.heap.size) (NC cI cB cR ad (pR w f)) → va_S (AA ad s.heap.size) s.heap H locs → lv_has ls 11 [(10, .int (nI (t0 + j))), (8, .long (lZ (o))), (7, .int (nI (t0 + cnt))), (6, .int (nI s0 - nI t0)), (5, .ref (ad 3)), (0, .ref (ad 2)), (1, .int (nI (t0))), (2, .int (nI (tc))), (3, .int (nI (s0))), (4, .int (nI (cnt)))] → W p l e (headSpec (q_Be_takeFrom :: wA) { frames := 0, cells := 0, slots := 0, locals := 0 }).room s m ([.ref (ad 2), .int (nI (t0)), .int (nI (tc)), .int (nI (s0)), .int (nI (cnt))] : List Value).toArray below meth c H locs 0 0 (MQ below (va_Qi (fun (r : Int32) (w1 : St) => ∃ (f : Nat → Int32) (o : Nat), w1 = pR w f ∧ r = nI o ∧ o ≤ 1 ∧ so f (sR w) t0 tc ∧ vN f t0 tc + vN (sR w) s0 cnt = vN (sR w) t0 tc + o * 4294967296 ^ tc) (BW D cI cB cR ad) (AA ad s.heap.size)) ([.ref (ad 2), .int (nI (t0)), .int (nI (tc)), .int (nI (s0)), .int (nI (cnt))] : List Value).toArray s 0 0 (AA ad s.heap.size)) (F0 m 23 ls []) := by
    intro n
    induction n with
    | zero =>
      intro j f o H locs ls hj hinv hf hc hP hD hS hl
      refine lv_iload hx hb d_Be_takeFrom_23 (lv_at hl 0 rfl) ?_
      refine lv_iload hx hb d_Be_takeFrom_25 (lv_at hl 2 rfl) ?_
      refine lv_icmp_ge (tgt := 80) hx hb d_Be_takeFrom_27 (by decide) (fun c27 => ?_) (fun c27 => ?_)
      · skip
        have c27 : t0 + cnt ≤ t0 + j := (nI_leI (by omega) (by omega)).mp c27
        have ej : cnt = j := by omega
        subst ej
        refine lv_iload hx hb d_Be_takeFrom_80 (lv_at hl 2 rfl) ?_
        refine lv_istore (lv' := [(10, .int (nI (t0 + cnt))), (8, .long (lZ (o))), (7, .int (nI (t0 + cnt))), (6, .int (nI s0 - nI t0)), (5, .ref (ad 3)), (0, .ref (ad 2)), (1, .int (nI (t0))), (2, .int (nI (tc))), (3, .int (nI (s0))), (4, .int (nI (cnt)))]) hx hb d_Be_takeFrom_82 hl (by decide) rfl (fun ls hl => ?_)
        exact loop2 (tc - cnt) cnt f o H locs ls (by omega) hinv hf hc hP hD hS (lv_sub hl [0, 1, 2, 3, 4, 5, 6, 7, 8, 9] rfl)
      · exact absurd (nI_le (by omega) (by omega)) c27
    | succ n ih =>
      intro j f o H locs ls hj hinv hf hc hP hD hS hl
      have hy := wN_lt (sR w (t0 + j))
      have hz := wN_lt (sR w (s0 + j))
      refine lv_iload hx hb d_Be_takeFrom_23 (lv_at hl 0 rfl) ?_
      refine lv_iload hx hb d_Be_takeFrom_25 (lv_at hl 2 rfl) ?_
      refine lv_icmp_ge (tgt := 80) hx hb d_Be_takeFrom_27 (by decide) (fun c27 => ?_) (fun c27 => ?_)
      · exact absurd c27 (nI_ge (by omega) (by omega))
      · skip
        refine lv_lload hx hb d_Be_takeFrom_30 (lv_at hl 1 rfl) ?_
        refine lv_aload hx hb d_Be_takeFrom_32 (lv_at hl 4 rfl) ?_
        refine lv_iload hx hb d_Be_takeFrom_34 (lv_at hl 0 rfl) ?_
        refine nw_lR hx hb hKW.1 hP (j := t0 + j) (by omega) (x := sR w (t0 + j)) (hf _ (by omega)) d_Be_takeFrom_36 ?_
        refine lv_i2l (v := (sR w (t0 + j)).toInt64) hx hb d_Be_takeFrom_37 rfl ?_
        refine lv_ldc2 (v := 4294967295) hx hb hown (hA_ hts ll_Be_99) d_Be_takeFrom_38 ?_
        refine nw_land (v := lN (wN ((sR w (t0 + j))))) hx hb d_Be_takeFrom_41 (lw_low _) ?_
        refine lv_aload hx hb d_Be_takeFrom_42 (lv_at hl 4 rfl) ?_
        refine lv_iload hx hb d_Be_takeFrom_44 (lv_at hl 0 rfl) ?_
        refine lv_iload hx hb d_Be_takeFrom_46 (lv_at hl 3 rfl) ?_
        refine nw_iadd (v := nI (s0 + j)) hx hb d_Be_takeFrom_48 (ix_sh _ _ _) ?_
        refine nw_lR hx hb hKW.1 hP (j := s0 + j) (by omega) (x := sR w (s0 + j)) (hf _ (by omega)) d_Be_takeFrom_49 ?_
        refine lv_i2l (v := (sR w (s0 + j)).toInt64) hx hb d_Be_takeFrom_50 rfl ?_
        refine lv_ldc2 (v := 4294967295) hx hb hown (hA_ hts ll_Be_99) d_Be_takeFrom_51 ?_
        refine nw_land (v := lN (wN ((sR w (s0 + j))))) hx hb d_Be_takeFrom_54 (lw_low _) ?_
        refine nw_lsub (v := lZ (((wN (sR w (t0 + j)) : Nat) : Int) - ((wN (sR w (s0 + j)) : Nat) : Int))) hx hb d_Be_takeFrom_55 lZ_pm ?_
        refine nw_ladd (v := lZ (o + (((wN (sR w (t0 + j)) : Nat) : Int) - ((wN (sR w (s0 + j)) : Nat) : Int)))) hx hb d_Be_takeFrom_56 (lZ_add _ _) ?_
        refine lv_lstore (lv' := [(8, .long (lZ (o + (((wN (sR w (t0 + j)) : Nat) : Int) - ((wN (sR w (s0 + j)) : Nat) : Int))))), (10, .int (nI (t0 + j))), (7, .int (nI (t0 + cnt))), (6, .int (nI s0 - nI t0)), (5, .ref (ad 3)), (0, .ref (ad 2)), (1, .int (nI (t0))), (2, .int (nI (tc))), (3, .int (nI (s0))), (4, .int (nI (cnt)))]) hx hb d_Be_takeFrom_57 hl (by decide) rfl (fun ls hl => ?_)
        refine lv_aload hx hb d_Be_takeFrom_59 (lv_at hl 4 rfl) ?_
        refine lv_iload hx hb d_Be_takeFrom_61 (lv_at hl 1 rfl) ?_
        refine lv_lload hx hb d_Be_takeFrom_63 (lv_at hl 0 rfl) ?_
        refine lv_l2i (v := (lZ (o + (((wN (sR w (t0 + j)) : Nat) : Int) - ((wN (sR w (s0 + j)) : Nat) : Int)))).toInt32) hx hb d_Be_takeFrom_65 rfl ?_
        refine nw_sR hx hb hKW.1 hP hD hS (j := t0 + j) (by omega) d_Be_takeFrom_66 (fun H locs hP hD hS => ?_)
        refine lv_lload hx hb d_Be_takeFrom_67 (lv_at hl 0 rfl) ?_
        refine lv_bipush (v := nI (32)) hx hb d_Be_takeFrom_69 (by decide) ?_
        refine lv_lshr (v := lZ ((o + (((wN (sR w (t0 + j)) : Nat) : Int) - ((wN (sR w (s0 + j)) : Nat) : Int))) / 4294967296)) hx hb d_Be_takeFrom_71 (lZ_shr (by omega) (by omega)) ?_
        refine lv_lstore (lv' := [(8, .long (lZ ((o + (((wN (sR w (t0 + j)) : Nat) : Int) - ((wN (sR w (s0 + j)) : Nat) : Int))) / 4294967296))), (10, .int (nI (t0 + j))), (7, .int (nI (t0 + cnt))), (6, .int (nI s0 - nI t0)), (5, .ref (ad 3)), (0, .ref (ad 2)), (1, .int (nI (t0))), (2, .int (nI (tc))), (3, .int (nI (s0))), (4, .int (nI (cnt)))]) hx hb d_Be_takeFrom_72 hl (by decide) rfl (fun ls hl => ?_)
        refine lv_iinc (v := nI (t0 + j + 1)) (lv' := [(10, .int (nI (t0 + j + 1))), (8, .long (lZ ((o + (((wN (sR w (t0 + j)) : Nat) : Int) - ((wN (sR w (s0 + j)) : Nat) : Int))) / 4294967296))), (7, .int (nI (t0 + cnt))), (6, .int (nI s0 - nI t0)), (5, .ref (ad 3)), (0, .ref (ad 2)), (1, .int (nI (t0))), (2, .int (nI (tc))), (3, .int (nI (s0))), (4, .int (nI (cnt)))]) hx hb d_Be_takeFrom_74 hl (k := 1) rfl (nI_add _ 1) (by decide) rfl (fun ls hl => ?_)
        refine lv_goto (tgt := 23) hx hb d_Be_takeFrom_77 (by decide) ?_
        exact ih (j + 1) (upd f (t0 + j) (lZ (o + (((wN (sR w (t0 + j)) : Nat) : Int) - ((wN (sR w (s0 + j)) : Nat) : Int)))).toInt32) ((o + (((wN (sR w (t0 + j)) : Nat) : Int) - ((wN (sR w (s0 + j)) : Nat) : Int))) / 4294967296) H locs ls (by omega) (tf_step hinv) (so_upd hf) (by omega) hP hD hS (lv_sub hl [0, 1, 2, 3, 4, 5, 6, 7, 8, 9] rfl)
  have hl : lv_has ls 11 [(10, .int (nI (t0 + 0))), (8, .long (lZ (0))), (7, .int (nI (t0 + cnt))), (6, .int (nI s0 - nI t0)), (5, .ref (ad 3)), (0, .ref (ad 2)), (1, .int (nI (t0))), (2, .int (nI (tc))), (3, .int (nI (s0))), (4, .int (nI (cnt)))] := by have := (lv_sub (l' := [(10, .int (nI (t0 + 0))), (8, .long (lN (0))), (7, .int (nI (t0 + cnt))), (6, .int (nI s0 - nI t0)), (5, .ref (ad 3)), (0, .ref (ad 2)), (1, .int (nI (t0))), (2, .int (nI (tc))), (3, .int (nI (s0))), (4, .int (nI (cnt)))]) hl [0, 1, 2, 3, 4, 5, 6, 7, 8, 9] rfl); rw [lZ_0] at this; exact this
  exact loop1 cnt 0 (sR w) 0 _ _ ls (by omega) (by show ((0 : Nat) : Int) + 0 * 4294967296 ^ 0 = ((0 : Nat) : Int) - ((0 : Nat) : Int); omega) (so_refl _ _ _) (Or.inl rfl) hP hD hS hl
set_option maxHeartbeats 4000000 in
set_option maxRecDepth 100000 in
/-- takeOne(at, count) -/
theorem c_Be_takeOne (l : Launch) {D : va_G} {cI cB cR : ClassId} {ad : Nat → Nat} (w : St) (sz : Nat) {t0 cnt : Nat} (h1 : t0 + cnt ≤ 28672) : Met l y_Be_takeOne (q_Be_takeOne :: wA) { frames := 0, cells := 0, slots := 0, locals := 0 } (va_Pc [.ref (ad 2), .int (nI (t0)), .int (nI (cnt))] (PW D cI cB cR ad w sz)) (va_Qi (fun (r : Int32) (w1 : St) => ∃ (f : Nat → Int32) (o : Nat), w1 = pR w f ∧ r = nI o ∧ o ≤ 1 ∧ so f (sR w) t0 cnt ∧ vN f t0 cnt + 1 = vN (sR w) t0 cnt + o * 4294967296 ^ cnt) (BW D cI cB cR ad) (AA ad sz)) 0 0 (AA ad sz) := by
  refine Met.ofW (cc := b_Be_takeOne) (maxL := 4) (ret := (some (.int))) (by decide) rfl ?_
  intro p e s m args below meth c s₁ B hml hv
  obtain ⟨rfl, hsz, hP, hD0, hKW⟩ := hv
  have hx := B.exec
  have hb := B.bytes
  have hr := B.returns
  have hts := atoms_spec (ws := q_Be_takeOne :: wA) B.pre
  have hown : s.vm.findClass R_Be = some m.cls := findClass_of_methodNamed B.named
  have hlocks := B.notSynchronized
  subst hsz
  have hD := NC_AA (sz := s.heap.size) hD0
  have hS : va_S (AA ad s.heap.size) s.heap s.heap [] := va_S.rf
  have hl := lv_entry ([.ref (ad 2), .int (nI (t0)), .int (nI (cnt))]) (n := 4) (Nat.le_of_ble_eq_true rfl)
  rw [lg_entry_eq]
  generalize (lg_sl ([.ref (ad 2), .int (nI (t0)), .int (nI (cnt))]) ++ List.replicate (4 - (lg_sl ([.ref (ad 2), .int (nI (t0)), .int (nI (cnt))])).length) Slot.unset).toArray = ls at hl ⊢
  have hl : lv_has ls 4 [(0, .ref (ad 2)), (1, .int (nI (t0))), (2, .int (nI (cnt)))] := hl
  refine lv_iload_n hx hb d_Be_takeOne_0 rfl (lv_at hl 1 rfl) ?_
  refine lv_istore_n (lv' := [(3, .int (nI (t0))), (0, .ref (ad 2)), (1, .int (nI (t0))), (2, .int (nI (cnt)))]) hx hb d_Be_takeOne_1 rfl hl (by decide) rfl (fun ls hl => ?_)
  have loop : ∀ (n j : Nat) (f : Nat → Int32) (H : Heap) (locs : List Loc) (ls : Array Slot), j + n = cnt → vN f t0 j + 1 = vN (sR w) t0 j + 4294967296 ^ j → so f (sR w) t0 j → va_P D clA (NC cI cB cR ad (pR w f)) H → va_D (AA ad s.heap.size) (NC cI cB cR ad (pR w f)) → va_S (AA ad s.heap.size) s.heap H locs → lv_has ls 4 [(3, .int (nI (t0 + j))), (0, .ref (ad 2)), (1, .int (nI (t0))), (2, .int (nI (cnt)))] → W p l e (headSpec (q_Be_takeOne :: wA) { frames := 0, cells := 0, slots := 0, locals := 0 }).room s m ([.ref (ad 2), .int (nI (t0)), .int (nI (cnt))] : List Value).toArray below meth c H locs 0 0 (MQ below (va_Qi (fun (r : Int32) (w1 : St) => ∃ (f : Nat → Int32) (o : Nat), w1 = pR w f ∧ r = nI o ∧ o ≤ 1 ∧ so f (sR w) t0 cnt ∧ vN f t0 cnt + 1 = vN (sR w) t0 cnt + o * 4294967296 ^ cnt) (BW D cI cB cR ad) (AA ad s.heap.size)) ([.ref (ad 2), .int (nI (t0)), .int (nI (cnt))] : List Value).toArray s 0 0 (AA ad s.heap.size)) (F0 m 2 ls []) := by
    intro n
    induction n with
    | zero =>
      intro j f H locs ls hj hinv hf hP hD hS hl
      refine lv_iload_n hx hb d_Be_takeOne_2 rfl (lv_at hl 0 rfl) ?_
      refine lv_iload_n hx hb d_Be_takeOne_3 rfl (lv_at hl 2 rfl) ?_
      refine lv_iload_n hx hb d_Be_takeOne_4 rfl (lv_at hl 3 rfl) ?_
      refine nw_iadd (v := nI (t0 + cnt)) hx hb d_Be_takeOne_5 (nI_add _ _) ?_
      refine lv_icmp_ge (tgt := 37) hx hb d_Be_takeOne_6 (by decide) (fun c6 => ?_) (fun c6 => ?_)
      · skip
        have c6 : t0 + cnt ≤ t0 + j := (nI_leI (by omega) (by omega)).mp c6
        have ej : j = cnt := by omega
        subst ej
        refine lv_iconst (v := nI (1)) hx hb d_Be_takeOne_37 (by decide) ?_
        exact W.iret (v := nI (1)) hx hb hr (fun t ht hW => ⟨⟨_, pR w f, rfl, ⟨f, 1, rfl, rfl, by omega, hf, by rw [Nat.one_mul]; exact hinv⟩, BW_of ht hP⟩, hS.F ht⟩) hS.2.2 d_Be_takeOne_38
      · exact absurd (nI_le (by omega) (by omega)) c6
    | succ n ih =>
      intro j f H locs ls hj hinv hf hP hD hS hl
      refine lv_iload_n hx hb d_Be_takeOne_2 rfl (lv_at hl 0 rfl) ?_
      refine lv_iload_n hx hb d_Be_takeOne_3 rfl (lv_at hl 2 rfl) ?_
      refine lv_iload_n hx hb d_Be_takeOne_4 rfl (lv_at hl 3 rfl) ?_
      refine nw_iadd (v := nI (t0 + cnt)) hx hb d_Be_takeOne_5 (nI_add _ _) ?_
      refine lv_icmp_ge (tgt := 37) hx hb d_Be_takeOne_6 (by decide) (fun c6 => ?_) (fun c6 => ?_)
      · exact absurd c6 (nI_ge (by omega) (by omega))
      · skip
        refine lv_aload_n hx hb d_Be_takeOne_9 rfl (lv_at hl 1 rfl) ?_
        refine nw_gR hx hb hts hown hKW.1 hP lf_Be_11 d_Be_takeOne_10 ?_
        refine lv_iload_n hx hb d_Be_takeOne_13 rfl (lv_at hl 0 rfl) ?_
        refine lv_dup2_11 hx hb d_Be_takeOne_14 rfl rfl ?_
        refine nw_lR hx hb hKW.1 hP (j := t0 + j) (by omega) (x := sR w (t0 + j)) (hf _ (by omega)) d_Be_takeOne_15 ?_
        refine lv_iconst (v := nI (1)) hx hb d_Be_takeOne_16 (by decide) ?_
        refine nw_isub (v := (sR w (t0 + j)) - (nI (1))) hx hb d_Be_takeOne_17 rfl ?_
        refine nw_sR hx hb hKW.1 hP hD hS (j := t0 + j) (by omega) d_Be_takeOne_18 (fun H locs hP hD hS => ?_)
        refine lv_aload_n hx hb d_Be_takeOne_19 rfl (lv_at hl 1 rfl) ?_
        refine nw_gR hx hb hts hown hKW.1 hP lf_Be_11 d_Be_takeOne_20 ?_
        refine lv_iload_n hx hb d_Be_takeOne_23 rfl (lv_at hl 0 rfl) ?_
        refine nw_lR hx hb hKW.1 hP (j := t0 + j) (by omega) (x := sR w (t0 + j) - nI 1) pk_us d_Be_takeOne_24 ?_
        refine lv_iconst (v := -1) hx hb d_Be_takeOne_25 (by decide) ?_
        refine lv_icmp_eq (tgt := 31) hx hb d_Be_takeOne_26 (by decide) (fun c26 => ?_) (fun c26 => ?_)
        · skip
          refine lv_iinc (v := nI (t0 + j + 1)) (lv' := [(3, .int (nI (t0 + j + 1))), (0, .ref (ad 2)), (1, .int (nI (t0))), (2, .int (nI (cnt)))]) hx hb d_Be_takeOne_31 hl (k := 0) rfl (nI_add _ 1) (by decide) rfl (fun ls hl => ?_)
          refine lv_goto (tgt := 2) hx hb d_Be_takeOne_34 (by decide) ?_
          exact ih (j + 1) (upd f (t0 + j) (sR w (t0 + j) - nI 1)) H locs ls (by omega) (t1_step0 hinv c26) (so_upd hf) hP hD hS (lv_sub hl [0, 1, 2, 3] rfl)
        · skip
          refine lv_iconst (v := nI (0)) hx hb d_Be_takeOne_29 (by decide) ?_
          exact W.iret (v := nI (0)) hx hb hr (fun t ht hW => ⟨⟨_, pR w (upd f (t0 + j) (sR w (t0 + j) - nI 1)), rfl, ⟨_, 0, rfl, rfl, by omega, (so_upd hf).wide (by omega), by rw [Nat.zero_mul]; exact t1_step1 (by omega) hf hinv c26⟩, BW_of ht hP⟩, hS.F ht⟩) hS.2.2 d_Be_takeOne_30
  exact loop cnt 0 (sR w) _ _ ls (by omega) (by show 0 + 1 = 0 + 4294967296 ^ 0; omega) (so_refl _ _ _) hP hD hS (lv_sub hl [0, 1, 2, 3] rfl)
set_option maxHeartbeats 4000000 in
set_option maxRecDepth 100000 in
/-- isNotLess(a, b, count) -/
theorem c_Be_isNotLess (l : Launch) {D : va_G} {cI cB cR : ClassId} {ad : Nat → Nat} (w : St) (sz : Nat) {a0 b0 cnt : Nat} (h1 : a0 + cnt ≤ 28672) (h2 : b0 + cnt ≤ 28672) : Met l y_Be_isNotLess (q_Be_isNotLess :: wA) { frames := 0, cells := 0, slots := 0, locals := 0 } (va_Pc [.ref (ad 2), .int (nI (a0)), .int (nI (b0)), .int (nI (cnt))] (PW D cI cB cR ad w sz)) (va_Qi (fun (r : Int32) (w1 : St) => r = (if vN (sR w) b0 cnt ≤ vN (sR w) a0 cnt then nI 1 else nI 0) ∧ w1 = w) (BW D cI cB cR ad) (AA ad sz)) 0 0 (AA ad sz) := by
  refine Met.ofW (cc := b_Be_isNotLess) (maxL := 5) (ret := (some (.boolean))) (by decide) rfl ?_
  intro p e s m args below meth c s₁ B hml hv
  obtain ⟨rfl, hsz, hP, hD0, hKW⟩ := hv
  have hx := B.exec
  have hb := B.bytes
  have hr := B.returns
  have hts := atoms_spec (ws := q_Be_isNotLess :: wA) B.pre
  have hown : s.vm.findClass R_Be = some m.cls := findClass_of_methodNamed B.named
  have hlocks := B.notSynchronized
  subst hsz
  have hD := NC_AA (sz := s.heap.size) hD0
  have hS : va_S (AA ad s.heap.size) s.heap s.heap [] := va_S.rf
  have hl := lv_entry ([.ref (ad 2), .int (nI (a0)), .int (nI (b0)), .int (nI (cnt))]) (n := 5) (Nat.le_of_ble_eq_true rfl)
  rw [lg_entry_eq]
  generalize (lg_sl ([.ref (ad 2), .int (nI (a0)), .int (nI (b0)), .int (nI (cnt))]) ++ List.replicate (5 - (lg_sl ([.ref (ad 2), .int (nI (a0)), .int (nI (b0)), .int (nI (cnt))])).length) Slot.unset).toArray = ls at hl ⊢
  have hl : lv_has ls 5 [(0, .ref (ad 2)), (1, .int (nI (a0))), (2, .int (nI (b0))), (3, .int (nI (cnt)))] := hl
  refine lv_iload_n hx hb d_Be_isNotLess_0 rfl (lv_at hl 3 rfl) ?_
  refine lv_iconst (v := nI (1)) hx hb d_Be_isNotLess_1 (by decide) ?_
  refine nw_isub (v := dn cnt) hx hb d_Be_isNotLess_2 (dn_sub _) ?_
  refine lv_istore (lv' := [(4, .int (dn cnt)), (0, .ref (ad 2)), (1, .int (nI (a0))), (2, .int (nI (b0))), (3, .int (nI (cnt)))]) hx hb d_Be_isNotLess_3 hl (by decide) rfl (fun ls hl => ?_)
  have loop : ∀ (k : Nat), k ≤ cnt → (∀ j, k ≤ j → j < cnt → sR w (a0 + j) = sR w (b0 + j)) → ∀ ls : Array Slot, lv_has ls 5 [(4, .int (dn k)), (0, .ref (ad 2)), (1, .int (nI (a0))), (2, .int (nI (b0))), (3, .int (nI (cnt)))] → W p l e (headSpec (q_Be_isNotLess :: wA) { frames := 0, cells := 0, slots := 0, locals := 0 }).room s m ([.ref (ad 2), .int (nI (a0)), .int (nI (b0)), .int (nI (cnt))] : List Value).toArray below meth c s.heap [] 0 0 (MQ below (va_Qi (fun (r : Int32) (w1 : St) => r = (if vN (sR w) b0 cnt ≤ vN (sR w) a0 cnt then nI 1 else nI 0) ∧ w1 = w) (BW D cI cB cR ad) (AA ad s.heap.size)) ([.ref (ad 2), .int (nI (a0)), .int (nI (b0)), .int (nI (cnt))] : List Value).toArray s 0 0 (AA ad s.heap.size)) (F0 m 5 ls []) := by
    intro k
    induction k with
    | zero =>
      intro _ he ls hl
      refine lv_iload hx hb d_Be_isNotLess_5 (lv_at hl 0 rfl) ?_
      refine lv_if_lt (tgt := 75) hx hb d_Be_isNotLess_7 (by decide) (fun c7 => ?_) (fun c7 => ?_)
      · skip
        refine lv_iconst (v := nI (1)) hx hb d_Be_isNotLess_75 (by decide) ?_
        have h7 : vN (sR w) b0 cnt = vN (sR w) a0 cnt := vN_congr (fun j hj => (he j (Nat.zero_le _) hj).symm)
        exact W.zret (v := nI (1)) hx hb hr (by decide) (fun t ht hW => ⟨⟨_, w, rfl, ⟨by rw [if_pos (by omega)], rfl⟩, BW_of ht hP⟩, hS.F ht⟩) hS.2.2 d_Be_isNotLess_76
      · exact absurd dn_0 c7
    | succ k ih =>
      intro hk he ls hl
      refine lv_iload hx hb d_Be_isNotLess_5 (lv_at hl 0 rfl) ?_
      refine lv_if_lt (tgt := 75) hx hb d_Be_isNotLess_7 (by decide) (fun c7 => ?_) (fun c7 => ?_)
      · exact absurd c7 (nI_pos (by omega))
      · skip
        refine lv_aload_n hx hb d_Be_isNotLess_10 rfl (lv_at hl 1 rfl) ?_
        refine nw_gR hx hb hts hown hKW.1 hP lf_Be_11 d_Be_isNotLess_11 ?_
        refine lv_iload_n hx hb d_Be_isNotLess_14 rfl (lv_at hl 2 rfl) ?_
        refine lv_iload hx hb d_Be_isNotLess_15 (lv_at hl 0 rfl) ?_
        refine nw_iadd (v := nI (a0 + k)) hx hb d_Be_isNotLess_17 (nI_add _ _) ?_
        refine nw_lR hx hb hKW.1 hP (j := a0 + k) (by omega) (x := sR (w) (a0 + k)) rfl d_Be_isNotLess_18 ?_
        refine lv_aload_n hx hb d_Be_isNotLess_19 rfl (lv_at hl 1 rfl) ?_
        refine nw_gR hx hb hts hown hKW.1 hP lf_Be_11 d_Be_isNotLess_20 ?_
        refine lv_iload_n hx hb d_Be_isNotLess_23 rfl (lv_at hl 3 rfl) ?_
        refine lv_iload hx hb d_Be_isNotLess_24 (lv_at hl 0 rfl) ?_
        refine nw_iadd (v := nI (b0 + k)) hx hb d_Be_isNotLess_26 (nI_add _ _) ?_
        refine nw_lR hx hb hKW.1 hP (j := b0 + k) (by omega) (x := sR (w) (b0 + k)) rfl d_Be_isNotLess_27 ?_
        refine lv_icmp_eq (tgt := 69) hx hb d_Be_isNotLess_28 (by decide) (fun c28 => ?_) (fun c28 => ?_)
        · skip
          refine lv_iinc (v := dn k) (lv' := [(4, .int (dn k)), (0, .ref (ad 2)), (1, .int (nI (a0))), (2, .int (nI (b0))), (3, .int (nI (cnt)))]) hx hb d_Be_isNotLess_69 hl (k := 0) rfl (dn_dec k) (by decide) rfl (fun ls hl => ?_)
          refine lv_goto (tgt := 5) hx hb d_Be_isNotLess_72 (by decide) ?_
          exact ih (by omega) (fun j q1 q2 => by
            rcases Nat.lt_or_ge k j with q | q
            · exact he j (by omega) q2
            · rw [show j = k by omega]; exact c28) ls (lv_sub hl [0, 1, 2, 3, 4] rfl)
        · skip
          refine lv_aload_n hx hb d_Be_isNotLess_31 rfl (lv_at hl 1 rfl) ?_
          refine nw_gR hx hb hts hown hKW.1 hP lf_Be_11 d_Be_isNotLess_32 ?_
          refine lv_iload_n hx hb d_Be_isNotLess_35 rfl (lv_at hl 2 rfl) ?_
          refine lv_iload hx hb d_Be_isNotLess_36 (lv_at hl 0 rfl) ?_
          refine nw_iadd (v := nI (a0 + k)) hx hb d_Be_isNotLess_38 (nI_add _ _) ?_
          refine nw_lR hx hb hKW.1 hP (j := a0 + k) (by omega) (x := sR (w) (a0 + k)) rfl d_Be_isNotLess_39 ?_
          refine lv_i2l (v := (sR (w) (a0 + k)).toInt64) hx hb d_Be_isNotLess_40 rfl ?_
          refine lv_ldc2 (v := 4294967295) hx hb hown (hA_ hts ll_Be_99) d_Be_isNotLess_41 ?_
          refine nw_land (v := lN (wN ((sR (w) (a0 + k))))) hx hb d_Be_isNotLess_44 (lw_low _) ?_
          refine lv_aload_n hx hb d_Be_isNotLess_45 rfl (lv_at hl 1 rfl) ?_
          refine nw_gR hx hb hts hown hKW.1 hP lf_Be_11 d_Be_isNotLess_46 ?_
          refine lv_iload_n hx hb d_Be_isNotLess_49 rfl (lv_at hl 3 rfl) ?_
          refine lv_iload hx hb d_Be_isNotLess_50 (lv_at hl 0 rfl) ?_
          refine nw_iadd (v := nI (b0 + k)) hx hb d_Be_isNotLess_52 (nI_add _ _) ?_
          refine nw_lR hx hb hKW.1 hP (j := b0 + k) (by omega) (x := sR (w) (b0 + k)) rfl d_Be_isNotLess_53 ?_
          refine lv_i2l (v := (sR (w) (b0 + k)).toInt64) hx hb d_Be_isNotLess_54 rfl ?_
          refine lv_ldc2 (v := 4294967295) hx hb hown (hA_ hts ll_Be_99) d_Be_isNotLess_55 ?_
          refine nw_land (v := lN (wN ((sR (w) (b0 + k))))) hx hb d_Be_isNotLess_58 (lw_low _) ?_
          refine W.lcmp hx hb d_Be_isNotLess_59 ?_
          refine lv_if_le (tgt := 67) hx hb d_Be_isNotLess_60 (by decide) (fun c60 => ?_) (fun c60 => ?_)
          · skip
            refine lv_iconst (v := nI (0)) hx hb d_Be_isNotLess_67 (by decide) ?_
            have h9 := (pk_lLE (Nat.lt_trans (wN_lt _) (by decide)) (Nat.lt_trans (wN_lt _) (by decide))).mp ((lg_cmp_le _ _).mp c60)
            have h8 : wN (sR w (a0 + k)) < wN (sR w (b0 + k)) := Nat.lt_of_le_of_ne h9 (fun q => c28 (wN_inj q))
            have h7 := dn_lexA (f := sR w) (g := sR w) (a := a0) (b := b0) (L := cnt) (k := k) (by omega) (fun j q1 q2 => he j (by omega) q2) h8
            exact W.zret (v := nI (0)) hx hb hr (by decide) (fun t ht hW => ⟨⟨_, w, rfl, ⟨by rw [if_neg (by omega)], rfl⟩, BW_of ht hP⟩, hS.F ht⟩) hS.2.2 d_Be_isNotLess_68
          · skip
            refine lv_iconst (v := nI (1)) hx hb d_Be_isNotLess_63 (by decide) ?_
            refine lv_goto (tgt := 68) hx hb d_Be_isNotLess_64 (by decide) ?_
            have h9 : ¬ wN (sR w (a0 + k)) ≤ wN (sR w (b0 + k)) := fun h => c60 ((lg_cmp_le _ _).mpr ((pk_lLE (Nat.lt_trans (wN_lt _) (by decide)) (Nat.lt_trans (wN_lt _) (by decide))).mpr h))
            have h7 := dn_lexA (f := sR w) (g := sR w) (a := b0) (b := a0) (L := cnt) (k := k) (by omega) (fun j q1 q2 => (he j (by omega) q2).symm) (Nat.not_le.mp h9)
            exact W.zret (v := nI (1)) hx hb hr (by decide) (fun t ht hW => ⟨⟨_, w, rfl, ⟨by rw [if_pos (by omega)], rfl⟩, BW_of ht hP⟩, hS.F ht⟩) hS.2.2 d_Be_isNotLess_68
  exact loop cnt (Nat.le_refl _) (fun j q1 q2 => absurd q2 (by omega)) ls hl
end
section
/-! PIECES for the bench's row, 3 -/
/-- the first j of m words from a on -/
def vMA (f : Nat → Int32) (a m j : Nat) : Nat := vN f a (min j m)
theorem vMA_0 (f : Nat → Int32) (a m : Nat) : vMA f a m 0 = 0 := by unfold vMA; rw [Nat.zero_min]; rfl
theorem vMA_all {f : Nat → Int32} {a m j : Nat} (h : m ≤ j) : vMA f a m j = vN f a m := by
  unfold vMA
  rw [Nat.min_eq_right h]
theorem vMA_lt {f : Nat → Int32} {a m j : Nat} (h : j < m) : ((vMA f a m (j + 1) : Nat) : Int) = (vMA f a m j : Int) + (wN (f (a + j)) : Int) * 4294967296 ^ j := by
  unfold vMA
  rw [Nat.min_eq_left (by omega), Nat.min_eq_left (by omega), sbA_lt]
theorem vMA_ge {f : Nat → Int32} {a m j : Nat} (h : m ≤ j) : ((vMA f a m (j + 1) : Nat) : Int) = (vMA f a m j : Int) + ((0 : Nat) : Int) * 4294967296 ^ j := by
  unfold vMA
  rw [Nat.min_eq_right (by omega), Nat.min_eq_right h]
  omega
theorem ld_step {f : Nat → Int32} {a j : Nat} {o x y : Int} {V U V' U' : Nat} (hinv : (vN f a j : Int) + o * 4294967296 ^ j = (V : Int) - (U : Int)) (hV : (V' : Int) = (V : Int) + x * 4294967296 ^ j) (hU : (U' : Int) = (U : Int) + y * 4294967296 ^ j) :
    (vN (upd f (a + j) (lZ (o + (x - y))).toInt32) a (j + 1) : Int) + (o + (x - y)) / 4294967296 * 4294967296 ^ (j + 1) = (V' : Int) - (U' : Int) := by
  rw [ch_addZ hinv, hV, hU, Int.sub_mul]
  omega
theorem ld_pos {f : Nat → Int32} {a n V U : Nat} (h : (vN f a n : Int) + 0 * 4294967296 ^ n = (V : Int) - (U : Int)) : U ≤ V ∧ vN f a n = V - U := by omega
theorem ld_neg {f : Nat → Int32} {a n V U : Nat} (h : (vN f a n : Int) + -1 * 4294967296 ^ n = (V : Int) - (U : Int)) : V < U ∧ vN f a n + U = V + 4294967296 ^ n := by
  have h1 := vN_lt f a n
  have e : ((4294967296 ^ n : Nat) : Int) = (4294967296 : Int) ^ n := by rw [Int.natCast_pow]; rfl
  omega
theorem wN_not (x : Int32) : wN (x ^^^ -1) + wN x = 4294967295 := by
  have h : wN (x ^^^ -1) = 2 ^ 32 - 1 - wN x := by
    show (x.toBitVec ^^^ BitVec.allOnes 32).toNat = _
    rw [BitVec.xor_allOnes, BitVec.toNat_not]
    rfl
  have := wN_lt x
  omega
theorem ng_step {f h : Nat → Int32} {a j cy : Nat} (hinv : vN h a j + cy * 4294967296 ^ j + vN f a j = 4294967296 ^ j) :
    vN (upd h (a + j) (nI (cy + wN (f (a + j) ^^^ -1)))) a (j + 1) + (cy + wN (f (a + j) ^^^ -1)) / 4294967296 * 4294967296 ^ (j + 1) + vN f a (j + 1) = 4294967296 ^ (j + 1) := by
  have h1 := ch_add (f := h) (a := a) (i := j) (c := cy) (t := wN (f (a + j) ^^^ -1)) rfl
  have h2 := wN_not (f (a + j))
  have h3 : (wN (f (a + j) ^^^ -1) + wN (f (a + j))) * 4294967296 ^ j = 4294967295 * 4294967296 ^ j := by rw [h2]
  rw [Nat.add_mul] at h3
  rw [h1, vN_sucA, Nat.pow_succ]
  omega
theorem lm_step {f g : Nat → Int32} {a j up : Nat} {x y : Int32} (hup : up < 32) (hx : x = g j) (hinv : vN f a j + wN y * 2 ^ up / 4294967296 * 4294967296 ^ j = vN g 0 j * 2 ^ up) :
    vN (upd f (a + j) (upw up x y)) a (j + 1) + wN x * 2 ^ up / 4294967296 * 4294967296 ^ (j + 1) = vN g 0 (j + 1) * 2 ^ up := by
  rw [vN_push, wN_upw hup, vN_suc0, Nat.pow_succ, ← hx]
  have h := Nat.div_add_mod (wN x * 2 ^ up) 4294967296
  have e1 : (vN g 0 j + wN x * 4294967296 ^ j) * 2 ^ up = vN g 0 j * 2 ^ up + wN x * 2 ^ up * 4294967296 ^ j := by rw [Nat.add_mul, Nat.mul_right_comm]
  rw [e1]
  generalize wN x * 2 ^ up = X at *
  generalize wN y * 2 ^ up / 4294967296 = Y at *
  generalize 4294967296 ^ j = P at *
  have e2 : X / 4294967296 * (P * 4294967296) = 4294967296 * (X / 4294967296) * P := by rw [Nat.mul_comm P, ← Nat.mul_assoc, Nat.mul_comm (X / 4294967296)]
  have e3 : (4294967296 * (X / 4294967296) + X % 4294967296) * P = X * P := by rw [h]
  rw [e2]
  rw [Nat.add_mul] at e3 ⊢
  omega
theorem lm_top {up : Nat} (h : up < 32) (h0 : ¬ up = 0) (y : Int32) : wN (us y (32 - up)) = wN y * 2 ^ up / 4294967296 := by rw [wN_us y (by omega), div_pw (by omega)]
theorem sh_eq {b d : Nat} (hd : 0 < d) : b - b / 2 / d * 2 * d < 2 * d ∧ b / 2 / d * 2 * d ≤ b ∧ (b - b / 2 / d * 2 * d < d → b / d = b / 2 / d * 2) ∧ (¬ b - b / 2 / d * 2 * d < d → b / d = b / 2 / d * 2 + 1) := by
  have h1 := Nat.div_add_mod (b / 2) d
  have h2 := Nat.mod_lt (b / 2) hd
  have e : b / 2 / d * 2 * d = 2 * (d * (b / 2 / d)) := by rw [Nat.mul_right_comm, Nat.mul_comm, Nat.mul_comm d]
  generalize b / 2 / d = q at *
  have hb : b = q * 2 * d + (b - q * 2 * d) := by omega
  refine ⟨by omega, by omega, fun h => ?_, fun h => ?_⟩
  · exact ((rd_end (q := q * 2) (d := d) (r := b - q * 2 * d) hb.symm h).1).symm
  · refine ((rd_end (q := q * 2 + 1) (d := d) (r := b - q * 2 * d - d) ?_ (by omega)).1).symm
    rw [Nat.add_mul]
    omega
end
section
/-! THE BENCH: layDifference, layMoved, shareOf (rows laid by wip/whole/gen/c_be3.py) -/
set_option maxHeartbeats 4000000 in
set_option maxRecDepth 100000 in
/-- layDifference(r, a, half, other) -/
theorem c_Be_layDifference (l : Launch) {D : va_G} {cI cB cR : ClassId} {ad : Nat → Nat} (w : St) (sz : Nat) {r0 a0 hf oth : Nat} (h1 : r0 + hf ≤ 28672) (h2 : a0 + hf + oth ≤ 28672) (ho : oth ≤ hf) (hd : r0 + hf ≤ a0 ∨ a0 + hf + oth ≤ r0) : Met l y_Be_layDifference (q_Be_layDifference :: wA) { frames := 0, cells := 0, slots := 0, locals := 0 } (va_Pc [.ref (ad 2), .int (nI (r0)), .int (nI (a0)), .int (nI (hf)), .int (nI (oth))] (PW D cI cB cR ad w sz)) (va_Qi (fun (r : Int32) (w1 : St) => ∃ f : Nat → Int32, w1 = pR w f ∧ so f (sR w) r0 hf ∧ ((vN (sR w) a0 hf < vN (sR w) (a0 + hf) oth ∧ r = nI 1 ∧ vN f r0 hf = vN (sR w) (a0 + hf) oth - vN (sR w) a0 hf) ∨ (vN (sR w) (a0 + hf) oth ≤ vN (sR w) a0 hf ∧ r = nI 0 ∧ vN f r0 hf = vN (sR w) a0 hf - vN (sR w) (a0 + hf) oth))) (BW D cI cB cR ad) (AA ad sz)) 0 0 (AA ad sz) := by
  refine Met.ofW (cc := b_Be_layDifference) (maxL := 11) (ret := (some (.boolean))) (by decide) rfl ?_
  intro p e s m args below meth c s₁ B hml hv
  obtain ⟨rfl, hsz, hP, hD0, hKW⟩ := hv
  have hx := B.exec
  have hb := B.bytes
  have hr := B.returns
  have hts := atoms_spec (ws := q_Be_layDifference :: wA) B.pre
  have hown : s.vm.findClass R_Be = some m.cls := findClass_of_methodNamed B.named
  have hlocks := B.notSynchronized
  subst hsz
  have hD := NC_AA (sz := s.heap.size) hD0
  have hS : va_S (AA ad s.heap.size) s.heap s.heap [] := va_S.rf
  have hl := lv_entry ([.ref (ad 2), .int (nI (r0)), .int (nI (a0)), .int (nI (hf)), .int (nI (oth))]) (n := 11) (Nat.le_of_ble_eq_true rfl)
  rw [lg_entry_eq]
  generalize (lg_sl ([.ref (ad 2), .int (nI (r0)), .int (nI (a0)), .int (nI (hf)), .int (nI (oth))]) ++ List.replicate (11 - (lg_sl ([.ref (ad 2), .int (nI (r0)), .int (nI (a0)), .int (nI (hf)), .int (nI (oth))])).length) Slot.unset).toArray = ls at hl ⊢
  have hl : lv_has ls 11 [(0, .ref (ad 2)), (1, .int (nI (r0))), (2, .int (nI (a0))), (3, .int (nI (hf))), (4, .int (nI (oth)))] := hl
  refine lv_aload_n hx hb d_Be_layDifference_0 rfl (lv_at hl 0 rfl) ?_
  refine nw_gR hx hb hts hown hKW.1 hP lf_Be_11 d_Be_layDifference_1 ?_
  refine lv_astore (lv' := [(5, .ref (ad 3)), (0, .ref (ad 2)), (1, .int (nI (r0))), (2, .int (nI (a0))), (3, .int (nI (hf))), (4, .int (nI (oth)))]) hx hb d_Be_layDifference_4 hl (by decide) rfl (fun ls hl => ?_)
  refine lv_lconst (v := lN (0)) hx hb d_Be_layDifference_6 (by decide) ?_
  refine lv_lstore (lv' := [(6, .long (lN (0))), (5, .ref (ad 3)), (0, .ref (ad 2)), (1, .int (nI (r0))), (2, .int (nI (a0))), (3, .int (nI (hf))), (4, .int (nI (oth)))]) hx hb d_Be_layDifference_7 hl (by decide) rfl (fun ls hl => ?_)
  refine lv_iconst (v := nI (0)) hx hb d_Be_layDifference_9 (by decide) ?_
  refine lv_istore (lv' := [(8, .int (nI (0))), (6, .long (lN (0))), (5, .ref (ad 3)), (0, .ref (ad 2)), (1, .int (nI (r0))), (2, .int (nI (a0))), (3, .int (nI (hf))), (4, .int (nI (oth)))]) hx hb d_Be_layDifference_10 hl (by decide) rfl (fun ls hl => ?_)
  have loop2 : ∀ (f : Nat → Int32), so f (sR w) r0 hf → vN f r0 hf + vN (sR w) (a0 + hf) oth = vN (sR w) a0 hf + 4294967296 ^ hf → vN (sR w) a0 hf < vN (sR w) (a0 + hf) oth → ∀ (n j : Nat) (h : Nat → Int32) (cy : Nat) (H : Heap) (locs : List Loc) (ls : Array Slot), j + n = hf → vN h r0 j + cy * 4294967296 ^ j + vN f r0 j = 4294967296 ^ j → so h f r0 j → cy ≤ 1 → va_P D clA (NC cI cB cR ad (pR w h)) H → va_D (AA ad s.heap.size) (NC cI cB cR ad (pR w h)) → va_S (AA ad s.heap.size) s.heap H locs → lv_has ls 11 [(10, .int (nI (r0 + j))), (8, .long (lN (cy))), (5, .ref (ad 3)), (0, .ref (ad 2)), (1, .int (nI (r0))), (2, .int (nI (a0))), (3, .int (nI (hf))), (4, .int (nI (oth)))] → W p l e (headSpec (q_Be_layDifference :: wA) { frames := 0, cells := 0, slots := 0, locals := 0 }).room s m ([.ref (ad 2), .int (nI (r0)), .int (nI (a0)), .int (nI (hf)), .int (nI (oth))] : List Value).toArray below meth c H locs 0 0 (MQ below (va_Qi (fun (r : Int32) (w1 : St) => ∃ f : Nat → Int32, w1 = pR w f ∧ so f (sR w) r0 hf ∧ ((vN (sR w) a0 hf < vN (sR w) (a0 + hf) oth ∧ r = nI 1 ∧ vN f r0 hf = vN (sR w) (a0 + hf) oth - vN (sR w) a0 hf) ∨ (vN (sR w) (a0 + hf) oth ≤ vN (sR w) a0 hf ∧ r = nI 0 ∧ vN f r0 hf = vN (sR w) a0 hf - vN (sR w) (a0 + hf) oth))) (BW D cI cB cR ad) (AA ad s.heap.size)) ([.ref (ad 2), .int (nI (r0)), .int (nI (a0)), .int (nI (hf)), .int (nI (oth))] : List Value).toArray s 0 0 (AA ad s.heap.size)) (F0 m 99 ls []) := by
    intro f hsf hval hlt n
    induction n with
    | zero =>
      intro j h cy H locs ls hj hinv hf2 hc hP hD hS hl
      refine lv_iload hx hb d_Be_layDifference_99 (lv_at hl 0 rfl) ?_
      refine lv_iload_n hx hb d_Be_layDifference_101 rfl (lv_at hl 4 rfl) ?_
      refine lv_iload_n hx hb d_Be_layDifference_102 rfl (lv_at hl 6 rfl) ?_
      refine nw_iadd (v := nI (r0 + hf)) hx hb d_Be_layDifference_103 (nI_add _ _) ?_
      refine lv_icmp_ge (tgt := 145) hx hb d_Be_layDifference_104 (by decide) (fun c104 => ?_) (fun c104 => ?_)
      · skip
        have c104 : r0 + hf ≤ r0 + j := (nI_leI (by omega) (by omega)).mp c104
        have ej : j = hf := by omega
        subst ej
        refine lv_iconst (v := nI (1)) hx hb d_Be_layDifference_145 (by decide) ?_
        have hbv := vN_lt (sR w) (a0 + j) oth
        have hpw : (4294967296 : Nat) ^ oth ≤ 4294967296 ^ j := Nat.pow_le_pow_right (by decide) ho
        have hcz : cy = 0 := by
          rcases Nat.eq_zero_or_pos cy with q | q
          · exact q
          · have q1 : cy = 1 := by omega
            rw [q1] at hinv
            omega
        rw [hcz] at hinv
        exact W.zret (v := nI (1)) hx hb hr (by decide) (fun t ht hW => ⟨⟨_, pR w h, rfl, ⟨h, rfl, (hf2.wide (Nat.le_refl _)).trans hsf, Or.inl ⟨hlt, rfl, by omega⟩⟩, BW_of ht hP⟩, hS.F ht⟩) hS.2.2 d_Be_layDifference_146
      · exact absurd (nI_le (by omega) (by omega)) c104
    | succ n ih =>
      intro j h cy H locs ls hj hinv hf2 hc hP hD hS hl
      have hy := wN_not (f (r0 + j))
      refine lv_iload hx hb d_Be_layDifference_99 (lv_at hl 0 rfl) ?_
      refine lv_iload_n hx hb d_Be_layDifference_101 rfl (lv_at hl 4 rfl) ?_
      refine lv_iload_n hx hb d_Be_layDifference_102 rfl (lv_at hl 6 rfl) ?_
      refine nw_iadd (v := nI (r0 + hf)) hx hb d_Be_layDifference_103 (nI_add _ _) ?_
      refine lv_icmp_ge (tgt := 145) hx hb d_Be_layDifference_104 (by decide) (fun c104 => ?_) (fun c104 => ?_)
      · exact absurd c104 (nI_ge (by omega) (by omega))
      · skip
        refine lv_lload hx hb d_Be_layDifference_107 (lv_at hl 1 rfl) ?_
        refine lv_aload hx hb d_Be_layDifference_109 (lv_at hl 2 rfl) ?_
        refine lv_iload hx hb d_Be_layDifference_111 (lv_at hl 0 rfl) ?_
        refine nw_lR hx hb hKW.1 hP (j := r0 + j) (by omega) (x := f (r0 + j)) (hf2 _ (by omega)) d_Be_layDifference_113 ?_
        refine lv_iconst (v := -1) hx hb d_Be_layDifference_114 (by decide) ?_
        refine nw_ixor (v := (f (r0 + j)) ^^^ (-1)) hx hb d_Be_layDifference_115 rfl ?_
        refine lv_i2l (v := ((f (r0 + j)) ^^^ (-1)).toInt64) hx hb d_Be_layDifference_116 rfl ?_
        refine lv_ldc2 (v := 4294967295) hx hb hown (hA_ hts ll_Be_99) d_Be_layDifference_117 ?_
        refine nw_land (v := lN (wN (((f (r0 + j)) ^^^ (-1))))) hx hb d_Be_layDifference_120 (lw_low _) ?_
        refine nw_ladd (v := lN (cy + (wN (((f (r0 + j)) ^^^ (-1)))))) hx hb d_Be_layDifference_121 (lN_add _ _) ?_
        refine lv_lstore (lv' := [(8, .long (lN (cy + (wN (((f (r0 + j)) ^^^ (-1))))))), (10, .int (nI (r0 + j))), (5, .ref (ad 3)), (0, .ref (ad 2)), (1, .int (nI (r0))), (2, .int (nI (a0))), (3, .int (nI (hf))), (4, .int (nI (oth)))]) hx hb d_Be_layDifference_122 hl (by decide) rfl (fun ls hl => ?_)
        refine lv_aload hx hb d_Be_layDifference_124 (lv_at hl 2 rfl) ?_
        refine lv_iload hx hb d_Be_layDifference_126 (lv_at hl 1 rfl) ?_
        refine lv_lload hx hb d_Be_layDifference_128 (lv_at hl 0 rfl) ?_
        refine lv_l2i (v := nI (cy + (wN (((f (r0 + j)) ^^^ (-1)))))) hx hb d_Be_layDifference_130 (lN_i _) ?_
        refine nw_sR hx hb hKW.1 hP hD hS (j := r0 + j) (by omega) d_Be_layDifference_131 (fun H locs hP hD hS => ?_)
        refine lv_lload hx hb d_Be_layDifference_132 (lv_at hl 0 rfl) ?_
        refine lv_bipush (v := nI (32)) hx hb d_Be_layDifference_134 (by decide) ?_
        refine lv_lushr (v := lN ((cy + (wN (((f (r0 + j)) ^^^ (-1))))) / 4294967296)) hx hb d_Be_layDifference_136 (lN_shr32 (by omega)) ?_
        refine lv_lstore (lv' := [(8, .long (lN ((cy + (wN (((f (r0 + j)) ^^^ (-1))))) / 4294967296))), (10, .int (nI (r0 + j))), (5, .ref (ad 3)), (0, .ref (ad 2)), (1, .int (nI (r0))), (2, .int (nI (a0))), (3, .int (nI (hf))), (4, .int (nI (oth)))]) hx hb d_Be_layDifference_137 hl (by decide) rfl (fun ls hl => ?_)
        refine lv_iinc (v := nI (r0 + j + 1)) (lv' := [(10, .int (nI (r0 + j + 1))), (8, .long (lN ((cy + (wN (((f (r0 + j)) ^^^ (-1))))) / 4294967296))), (5, .ref (ad 3)), (0, .ref (ad 2)), (1, .int (nI (r0))), (2, .int (nI (a0))), (3, .int (nI (hf))), (4, .int (nI (oth)))]) hx hb d_Be_layDifference_139 hl (k := 1) rfl (nI_add _ 1) (by decide) rfl (fun ls hl => ?_)
        refine lv_goto (tgt := 99) hx hb d_Be_layDifference_142 (by decide) ?_
        exact ih (j + 1) (upd h (r0 + j) (nI (cy + wN (f (r0 + j) ^^^ -1)))) ((cy + wN (f (r0 + j) ^^^ -1)) / 4294967296) H locs ls (by omega) (ng_step hinv) (so_upd hf2) (by omega) hP hD hS (lv_sub hl [0, 1, 2, 3, 4, 5, 6, 7] rfl)
  have loop1 : ∀ (n j : Nat) (f : Nat → Int32) (o : Int) (H : Heap) (locs : List Loc) (ls : Array Slot), j + n = hf → ((vN f r0 j : Nat) : Int) + o * 4294967296 ^ j = ((vN (sR w) a0 j : Nat) : Int) - ((vMA (sR w) (a0 + hf) oth j : Nat) : Int) → so f (sR w) r0 j → (o = 0 ∨ o = -1) → va_P D clA (NC cI cB cR ad (pR w f)) H → va_D (AA ad s.heap.size) (NC cI cB cR ad (pR w f)) → va_S (AA ad s.heap.size) s.heap H locs → lv_has ls 11 [(8, .int (nI (j))), (6, .long (lZ (o))), (5, .ref (ad 3)), (0, .ref (ad 2)), (1, .int (nI (r0))), (2, .int (nI (a0))), (3, .int (nI (hf))), (4, .int (nI (oth)))] → W p l e (headSpec (q_Be_layDifference :: wA) { frames := 0, cells := 0, slots := 0, locals := 0 }).room s m ([.ref (ad 2), .int (nI (r0)), .int (nI (a0)), .int (nI (hf)), .int (nI (oth))] : List Value).toArray below meth c H locs 0 0 (MQ below (va_Qi (fun (r : Int32) (w1 : St) => ∃ f : Nat → Int32, w1 = pR w f ∧ so f (sR w) r0 hf ∧ ((vN (sR w) a0 hf < vN (sR w) (a0 + hf) oth ∧ r = nI 1 ∧ vN f r0 hf = vN (sR w) (a0 + hf) oth - vN (sR w) a0 hf) ∨ (vN (sR w) (a0 + hf) oth ≤ vN (sR w) a0 hf ∧ r = nI 0 ∧ vN f r0 hf = vN (sR w) a0 hf - vN (sR w) (a0 + hf) oth))) (BW D cI cB cR ad) (AA ad s.heap.size)) ([.ref (ad 2), .int (nI (r0)), .int (nI (a0)), .int (nI (hf)), .int (nI (oth))] : List Value).toArray s 0 0 (AA ad s.heap.size)) (F0 m 12 ls []) := by
    intro n
    induction n with
    | zero =>
      intro j f o H locs ls hj hinv hso hc hP hD hS hl
      refine lv_iload hx hb d_Be_layDifference_12 (lv_at hl 0 rfl) ?_
      refine lv_iload_n hx hb d_Be_layDifference_14 rfl (lv_at hl 6 rfl) ?_
      refine lv_icmp_ge (tgt := 84) hx hb d_Be_layDifference_15 (by decide) (fun c15 => ?_) (fun c15 => ?_)
      · skip
        have c15 : hf ≤ j := (nI_leI (by omega) (by omega)).mp c15
        have ej : j = hf := by omega
        subst ej
        rw [vMA_all ho] at hinv
        refine lv_lload hx hb d_Be_layDifference_84 (lv_at hl 1 rfl) ?_
        refine lv_lconst (v := lN (0)) hx hb d_Be_layDifference_86 (by decide) ?_
        refine W.lcmp hx hb d_Be_layDifference_87 ?_
        refine lv_if_ne (tgt := 93) hx hb d_Be_layDifference_88 (by decide) (fun c88 => ?_) (fun c88 => ?_)
        · skip
          have c88 : o = -1 := by rcases hc with q | q; exact absurd ((lg_cmp_eq _ _).mpr (by rw [q, lZ_0])) c88; exact q
          subst c88
          obtain ⟨q1, q2⟩ := ld_neg hinv
          refine lv_lconst (v := lN (1)) hx hb d_Be_layDifference_93 (by decide) ?_
          refine lv_lstore (lv' := [(8, .long (lN (1))), (6, .long (lZ (-1))), (5, .ref (ad 3)), (0, .ref (ad 2)), (1, .int (nI (r0))), (2, .int (nI (a0))), (3, .int (nI (j))), (4, .int (nI (oth)))]) hx hb d_Be_layDifference_94 hl (by decide) rfl (fun ls hl => ?_)
          refine lv_iload_n hx hb d_Be_layDifference_96 rfl (lv_at hl 4 rfl) ?_
          refine lv_istore (lv' := [(10, .int (nI (r0))), (8, .long (lN (1))), (6, .long (lZ (-1))), (5, .ref (ad 3)), (0, .ref (ad 2)), (1, .int (nI (r0))), (2, .int (nI (a0))), (3, .int (nI (j))), (4, .int (nI (oth)))]) hx hb d_Be_layDifference_97 hl (by decide) rfl (fun ls hl => ?_)
          exact loop2 f hso q2 q1 j 0 f 1 H locs ls (by omega) (by show 0 + 1 * 4294967296 ^ 0 + 0 = 4294967296 ^ 0; omega) (so_refl _ _ _) (by omega) hP hD hS (lv_sub hl [0, 1, 3, 4, 5, 6, 7, 8] rfl)
        · skip
          have c88 : o = 0 := ow_ne hc ((lg_cmp_eq _ _).mp c88)
          subst c88
          obtain ⟨q1, q2⟩ := ld_pos hinv
          refine lv_iconst (v := nI (0)) hx hb d_Be_layDifference_91 (by decide) ?_
          exact W.zret (v := nI (0)) hx hb hr (by decide) (fun t ht hW => ⟨⟨_, pR w f, rfl, ⟨f, rfl, hso, Or.inr ⟨q1, rfl, q2⟩⟩, BW_of ht hP⟩, hS.F ht⟩) hS.2.2 d_Be_layDifference_92
      · exact absurd (nI_le (by omega) (by omega)) c15
    | succ n ih =>
      intro j f o H locs ls hj hinv hso hc hP hD hS hl
      have hy := wN_lt (sR w (a0 + j))
      have hz := wN_lt (sR w (a0 + hf + j))
      refine lv_iload hx hb d_Be_layDifference_12 (lv_at hl 0 rfl) ?_
      refine lv_iload_n hx hb d_Be_layDifference_14 rfl (lv_at hl 6 rfl) ?_
      refine lv_icmp_ge (tgt := 84) hx hb d_Be_layDifference_15 (by decide) (fun c15 => ?_) (fun c15 => ?_)
      · exact absurd c15 (nI_ge (by omega) (by omega))
      · skip
        refine lv_lload hx hb d_Be_layDifference_18 (lv_at hl 1 rfl) ?_
        refine lv_aload hx hb d_Be_layDifference_20 (lv_at hl 2 rfl) ?_
        refine lv_iload_n hx hb d_Be_layDifference_22 rfl (lv_at hl 5 rfl) ?_
        refine lv_iload hx hb d_Be_layDifference_23 (lv_at hl 0 rfl) ?_
        refine nw_iadd (v := nI (a0 + j)) hx hb d_Be_layDifference_25 (nI_add _ _) ?_
        refine nw_lR hx hb hKW.1 hP (j := a0 + j) (by omega) (x := sR w (a0 + j)) (hso _ (by omega)) d_Be_layDifference_26 ?_
        refine lv_i2l (v := (sR w (a0 + j)).toInt64) hx hb d_Be_layDifference_27 rfl ?_
        refine lv_ldc2 (v := 4294967295) hx hb hown (hA_ hts ll_Be_99) d_Be_layDifference_28 ?_
        refine nw_land (v := lN (wN ((sR w (a0 + j))))) hx hb d_Be_layDifference_31 (lw_low _) ?_
        refine lv_iload hx hb d_Be_layDifference_32 (lv_at hl 0 rfl) ?_
        refine lv_iload hx hb d_Be_layDifference_34 (lv_at hl 7 rfl) ?_
        refine lv_icmp_ge (tgt := 56) hx hb d_Be_layDifference_36 (by decide) (fun c36 => ?_) (fun c36 => ?_)
        · skip
          have c36 : oth ≤ j := (nI_leI (by omega) (by omega)).mp c36
          refine lv_lconst (v := lN (0)) hx hb d_Be_layDifference_56 (by decide) ?_
          refine nw_lsub (v := lZ (((wN (sR w (a0 + j)) : Nat) : Int) - ((0 : Nat) : Int))) hx hb d_Be_layDifference_57 lZ_pm ?_
          refine nw_ladd (v := lZ (o + (((wN (sR w (a0 + j)) : Nat) : Int) - ((0 : Nat) : Int)))) hx hb d_Be_layDifference_58 (lZ_add _ _) ?_
          refine lv_lstore (lv' := [(6, .long (lZ (o + (((wN (sR w (a0 + j)) : Nat) : Int) - ((0 : Nat) : Int))))), (8, .int (nI (j))), (5, .ref (ad 3)), (0, .ref (ad 2)), (1, .int (nI (r0))), (2, .int (nI (a0))), (3, .int (nI (hf))), (4, .int (nI (oth)))]) hx hb d_Be_layDifference_59 hl (by decide) rfl (fun ls hl => ?_)
          refine lv_aload hx hb d_Be_layDifference_61 (lv_at hl 2 rfl) ?_
          refine lv_iload_n hx hb d_Be_layDifference_63 rfl (lv_at hl 4 rfl) ?_
          refine lv_iload hx hb d_Be_layDifference_64 (lv_at hl 1 rfl) ?_
          refine nw_iadd (v := nI (r0 + j)) hx hb d_Be_layDifference_66 (nI_add _ _) ?_
          refine lv_lload hx hb d_Be_layDifference_67 (lv_at hl 0 rfl) ?_
          refine lv_l2i (v := (lZ (o + (((wN (sR w (a0 + j)) : Nat) : Int) - ((0 : Nat) : Int)))).toInt32) hx hb d_Be_layDifference_69 rfl ?_
          refine nw_sR hx hb hKW.1 hP hD hS (j := r0 + j) (by omega) d_Be_layDifference_70 (fun H locs hP hD hS => ?_)
          refine lv_lload hx hb d_Be_layDifference_71 (lv_at hl 0 rfl) ?_
          refine lv_bipush (v := nI (32)) hx hb d_Be_layDifference_73 (by decide) ?_
          refine lv_lshr (v := lZ ((o + (((wN (sR w (a0 + j)) : Nat) : Int) - ((0 : Nat) : Int))) / 4294967296)) hx hb d_Be_layDifference_75 (lZ_shr (by omega) (by omega)) ?_
          refine lv_lstore (lv' := [(6, .long (lZ ((o + (((wN (sR w (a0 + j)) : Nat) : Int) - ((0 : Nat) : Int))) / 4294967296))), (8, .int (nI (j))), (5, .ref (ad 3)), (0, .ref (ad 2)), (1, .int (nI (r0))), (2, .int (nI (a0))), (3, .int (nI (hf))), (4, .int (nI (oth)))]) hx hb d_Be_layDifference_76 hl (by decide) rfl (fun ls hl => ?_)
          refine lv_iinc (v := nI (j + 1)) (lv' := [(8, .int (nI (j + 1))), (6, .long (lZ ((o + (((wN (sR w (a0 + j)) : Nat) : Int) - ((0 : Nat) : Int))) / 4294967296))), (5, .ref (ad 3)), (0, .ref (ad 2)), (1, .int (nI (r0))), (2, .int (nI (a0))), (3, .int (nI (hf))), (4, .int (nI (oth)))]) hx hb d_Be_layDifference_78 hl (k := 1) rfl (nI_add _ 1) (by decide) rfl (fun ls hl => ?_)
          refine lv_goto (tgt := 12) hx hb d_Be_layDifference_81 (by decide) ?_
          exact ih (j + 1) (upd f (r0 + j) (lZ (o + (((wN (sR w (a0 + j)) : Nat) : Int) - ((0 : Nat) : Int)))).toInt32) ((o + (((wN (sR w (a0 + j)) : Nat) : Int) - ((0 : Nat) : Int))) / 4294967296) H locs ls (by omega) (ld_step hinv (sbA_lt _ _ _) (vMA_ge c36)) (so_upd hso) (by omega) hP hD hS (lv_sub hl [0, 1, 2, 3, 4, 5, 6, 7] rfl)
        · skip
          have c36 : ¬ (oth ≤ j) := fun h => c36 ((nI_leI (by omega) (by omega)).mpr h)
          refine lv_aload hx hb d_Be_layDifference_39 (lv_at hl 2 rfl) ?_
          refine lv_iload_n hx hb d_Be_layDifference_41 rfl (lv_at hl 5 rfl) ?_
          refine lv_iload_n hx hb d_Be_layDifference_42 rfl (lv_at hl 6 rfl) ?_
          refine nw_iadd (v := nI (a0 + hf)) hx hb d_Be_layDifference_43 (nI_add _ _) ?_
          refine lv_iload hx hb d_Be_layDifference_44 (lv_at hl 0 rfl) ?_
          refine nw_iadd (v := nI (a0 + hf + j)) hx hb d_Be_layDifference_46 (nI_add _ _) ?_
          refine nw_lR hx hb hKW.1 hP (j := a0 + hf + j) (by omega) (x := sR w (a0 + hf + j)) (hso _ (by omega)) d_Be_layDifference_47 ?_
          refine lv_i2l (v := (sR w (a0 + hf + j)).toInt64) hx hb d_Be_layDifference_48 rfl ?_
          refine lv_ldc2 (v := 4294967295) hx hb hown (hA_ hts ll_Be_99) d_Be_layDifference_49 ?_
          refine nw_land (v := lN (wN ((sR w (a0 + hf + j))))) hx hb d_Be_layDifference_52 (lw_low _) ?_
          refine lv_goto (tgt := 57) hx hb d_Be_layDifference_53 (by decide) ?_
          refine nw_lsub (v := lZ (((wN (sR w (a0 + j)) : Nat) : Int) - ((wN (sR w (a0 + hf + j)) : Nat) : Int))) hx hb d_Be_layDifference_57 lZ_pm ?_
          refine nw_ladd (v := lZ (o + (((wN (sR w (a0 + j)) : Nat) : Int) - ((wN (sR w (a0 + hf + j)) : Nat) : Int)))) hx hb d_Be_layDifference_58 (lZ_add _ _) ?_
          refine lv_lstore (lv' := [(6, .long (lZ (o + (((wN (sR w (a0 + j)) : Nat) : Int) - ((wN (sR w (a0 + hf + j)) : Nat) : Int))))), (8, .int (nI (j))), (5, .ref (ad 3)), (0, .ref (ad 2)), (1, .int (nI (r0))), (2, .int (nI (a0))), (3, .int (nI (hf))), (4, .int (nI (oth)))]) hx hb d_Be_layDifference_59 hl (by decide) rfl (fun ls hl => ?_)
          refine lv_aload hx hb d_Be_layDifference_61 (lv_at hl 2 rfl) ?_
          refine lv_iload_n hx hb d_Be_layDifference_63 rfl (lv_at hl 4 rfl) ?_
          refine lv_iload hx hb d_Be_layDifference_64 (lv_at hl 1 rfl) ?_
          refine nw_iadd (v := nI (r0 + j)) hx hb d_Be_layDifference_66 (nI_add _ _) ?_
          refine lv_lload hx hb d_Be_layDifference_67 (lv_at hl 0 rfl) ?_
          refine lv_l2i (v := (lZ (o + (((wN (sR w (a0 + j)) : Nat) : Int) - ((wN (sR w (a0 + hf + j)) : Nat) : Int)))).toInt32) hx hb d_Be_layDifference_69 rfl ?_
          refine nw_sR hx hb hKW.1 hP hD hS (j := r0 + j) (by omega) d_Be_layDifference_70 (fun H locs hP hD hS => ?_)
          refine lv_lload hx hb d_Be_layDifference_71 (lv_at hl 0 rfl) ?_
          refine lv_bipush (v := nI (32)) hx hb d_Be_layDifference_73 (by decide) ?_
          refine lv_lshr (v := lZ ((o + (((wN (sR w (a0 + j)) : Nat) : Int) - ((wN (sR w (a0 + hf + j)) : Nat) : Int))) / 4294967296)) hx hb d_Be_layDifference_75 (lZ_shr (by omega) (by omega)) ?_
          refine lv_lstore (lv' := [(6, .long (lZ ((o + (((wN (sR w (a0 + j)) : Nat) : Int) - ((wN (sR w (a0 + hf + j)) : Nat) : Int))) / 4294967296))), (8, .int (nI (j))), (5, .ref (ad 3)), (0, .ref (ad 2)), (1, .int (nI (r0))), (2, .int (nI (a0))), (3, .int (nI (hf))), (4, .int (nI (oth)))]) hx hb d_Be_layDifference_76 hl (by decide) rfl (fun ls hl => ?_)
          refine lv_iinc (v := nI (j + 1)) (lv' := [(8, .int (nI (j + 1))), (6, .long (lZ ((o + (((wN (sR w (a0 + j)) : Nat) : Int) - ((wN (sR w (a0 + hf + j)) : Nat) : Int))) / 4294967296))), (5, .ref (ad 3)), (0, .ref (ad 2)), (1, .int (nI (r0))), (2, .int (nI (a0))), (3, .int (nI (hf))), (4, .int (nI (oth)))]) hx hb d_Be_layDifference_78 hl (k := 1) rfl (nI_add _ 1) (by decide) rfl (fun ls hl => ?_)
          refine lv_goto (tgt := 12) hx hb d_Be_layDifference_81 (by decide) ?_
          exact ih (j + 1) (upd f (r0 + j) (lZ (o + (((wN (sR w (a0 + j)) : Nat) : Int) - ((wN (sR w (a0 + hf + j)) : Nat) : Int)))).toInt32) ((o + (((wN (sR w (a0 + j)) : Nat) : Int) - ((wN (sR w (a0 + hf + j)) : Nat) : Int))) / 4294967296) H locs ls (by omega) (ld_step hinv (sbA_lt _ _ _) (vMA_lt (Nat.not_le.mp c36))) (so_upd hso) (by omega) hP hD hS (lv_sub hl [0, 1, 2, 3, 4, 5, 6, 7] rfl)
  have hl : lv_has ls 11 [(8, .int (nI (0))), (6, .long (lZ (0))), (5, .ref (ad 3)), (0, .ref (ad 2)), (1, .int (nI (r0))), (2, .int (nI (a0))), (3, .int (nI (hf))), (4, .int (nI (oth)))] := by have := (lv_sub (l' := [(8, .int (nI (0))), (6, .long (lN (0))), (5, .ref (ad 3)), (0, .ref (ad 2)), (1, .int (nI (r0))), (2, .int (nI (a0))), (3, .int (nI (hf))), (4, .int (nI (oth)))]) hl [0, 1, 2, 3, 4, 5, 6, 7] rfl); rw [lZ_0] at this; exact this
  exact loop1 hf 0 (sR w) 0 _ _ ls (by omega) (by rw [vMA_0]; rfl) (so_refl _ _ _) (Or.inl rfl) hP hD hS hl
set_option maxHeartbeats 4000000 in
set_option maxRecDepth 100000 in
/-- layMoved(at, a, up) -/
theorem c_Be_layMoved (l : Launch) {D : va_G} {cI cB cR : ClassId} {ad : Nat → Nat} (w : St) (sz : Nat) {p0 a v up : Nat} (ha : a < 14) (hv : NV w a v) (hup : up < 32) (h1 : p0 + sL w a + 1 ≤ 28672) : Met l y_Be_layMoved (q_Be_layMoved :: wA) { frames := 0, cells := 0, slots := 0, locals := 0 } (va_Pc [.ref (ad 2), .int (nI (p0)), .ref (ad (2 * a + 8)), .int (nI (up))] (PW D cI cB cR ad w sz)) (va_Qv (fun w1 : St => ∃ f : Nat → Int32, w1 = pR w f ∧ so f (sR w) p0 (sL w a + 1) ∧ vN f p0 (sL w a + 1) = v * 2 ^ up) (BW D cI cB cR ad) (AA ad sz)) 0 0 (AA ad sz) := by
  refine Met.ofW (cc := b_Be_layMoved) (maxL := 7) (ret := none) (by decide) rfl ?_
  intro p e s m args below meth c s₁ B hml hv
  obtain ⟨rfl, hsz, hP, hD0, hKW⟩ := hv
  have hx := B.exec
  have hb := B.bytes
  have hr := B.returns
  have hts := atoms_spec (ws := q_Be_layMoved :: wA) B.pre
  have hown : s.vm.findClass R_Be = some m.cls := findClass_of_methodNamed B.named
  have hlocks := B.notSynchronized
  subst hsz
  have hD := NC_AA (sz := s.heap.size) hD0
  have hS : va_S (AA ad s.heap.size) s.heap s.heap [] := va_S.rf
  have hl := lv_entry ([.ref (ad 2), .int (nI (p0)), .ref (ad (2 * a + 8)), .int (nI (up))]) (n := 7) (Nat.le_of_ble_eq_true rfl)
  rw [lg_entry_eq]
  generalize (lg_sl ([.ref (ad 2), .int (nI (p0)), .ref (ad (2 * a + 8)), .int (nI (up))]) ++ List.replicate (7 - (lg_sl ([.ref (ad 2), .int (nI (p0)), .ref (ad (2 * a + 8)), .int (nI (up))])).length) Slot.unset).toArray = ls at hl ⊢
  have hl : lv_has ls 7 [(0, .ref (ad 2)), (1, .int (nI (p0))), (2, .ref (ad (2 * a + 8))), (3, .int (nI (up)))] := hl
  have hla := hv.len
  refine lv_iconst (v := nI (0)) hx hb d_Be_layMoved_0 (by decide) ?_
  refine lv_istore (lv' := [(4, .int (nI (0))), (0, .ref (ad 2)), (1, .int (nI (p0))), (2, .ref (ad (2 * a + 8))), (3, .int (nI (up)))]) hx hb d_Be_layMoved_1 hl (by decide) rfl (fun ls hl => ?_)
  refine lv_iconst (v := nI (0)) hx hb d_Be_layMoved_3 (by decide) ?_
  refine lv_istore (lv' := [(5, .int (nI (0))), (4, .int (nI (0))), (0, .ref (ad 2)), (1, .int (nI (p0))), (2, .ref (ad (2 * a + 8))), (3, .int (nI (up)))]) hx hb d_Be_layMoved_4 hl (by decide) rfl (fun ls hl => ?_)
  have loop : ∀ (n j : Nat) (f : Nat → Int32) (y : Int32) (H : Heap) (locs : List Loc) (ls : Array Slot), j + n = sL w a → vN f p0 j + wN y * 2 ^ up / 4294967296 * 4294967296 ^ j = vN (sW w a) 0 j * 2 ^ up → so f (sR w) p0 j → va_P D clA (NC cI cB cR ad (pR w f)) H → va_D (AA ad s.heap.size) (NC cI cB cR ad (pR w f)) → va_S (AA ad s.heap.size) s.heap H locs → lv_has ls 7 [(5, .int (nI (j))), (4, .int (y)), (0, .ref (ad 2)), (1, .int (nI (p0))), (2, .ref (ad (2 * a + 8))), (3, .int (nI (up)))] → W p l e (headSpec (q_Be_layMoved :: wA) { frames := 0, cells := 0, slots := 0, locals := 0 }).room s m ([.ref (ad 2), .int (nI (p0)), .ref (ad (2 * a + 8)), .int (nI (up))] : List Value).toArray below meth c H locs 0 0 (MQ below (va_Qv (fun w1 : St => ∃ f : Nat → Int32, w1 = pR w f ∧ so f (sR w) p0 (sL w a + 1) ∧ vN f p0 (sL w a + 1) = v * 2 ^ up) (BW D cI cB cR ad) (AA ad s.heap.size)) ([.ref (ad 2), .int (nI (p0)), .ref (ad (2 * a + 8)), .int (nI (up))] : List Value).toArray s 0 0 (AA ad s.heap.size)) (F0 m 6 ls []) := by
    intro n
    induction n with
    | zero =>
      intro j f y H locs ls hj hinv hso hP hD hS hl
      refine lv_iload hx hb d_Be_layMoved_6 (lv_at hl 0 rfl) ?_
      refine lv_aload_n hx hb d_Be_layMoved_8 rfl (lv_at hl 4 rfl) ?_
      refine nw_gL hx hb hts hown hKW.1 hP (i := a) (by omega) (n := sL w a) rfl lf_Be_15 d_Be_layMoved_9 ?_
      refine lv_icmp_ge (tgt := 64) hx hb d_Be_layMoved_12 (by decide) (fun c12 => ?_) (fun c12 => ?_)
      · skip
        have c12 : sL w a ≤ j := (nI_leI (by omega) (by omega)).mp c12
        have ej : j = sL w a := by omega
        subst ej
        refine lv_aload_n hx hb d_Be_layMoved_64 rfl (lv_at hl 2 rfl) ?_
        refine nw_gR hx hb hts hown hKW.1 hP lf_Be_11 d_Be_layMoved_65 ?_
        refine lv_iload_n hx hb d_Be_layMoved_68 rfl (lv_at hl 3 rfl) ?_
        refine lv_aload_n hx hb d_Be_layMoved_69 rfl (lv_at hl 4 rfl) ?_
        refine nw_gL hx hb hts hown hKW.1 hP (i := a) (by omega) (n := sL w a) rfl lf_Be_15 d_Be_layMoved_70 ?_
        refine nw_iadd (v := nI (p0 + (sL w a))) hx hb d_Be_layMoved_73 (nI_add _ _) ?_
        refine lv_iload_n hx hb d_Be_layMoved_74 rfl (lv_at hl 5 rfl) ?_
        refine lv_if_ne (tgt := 82) hx hb d_Be_layMoved_75 (by decide) (fun c75 => ?_) (fun c75 => ?_)
        · skip
          have c75 : ¬ (up = 0) := fun h => c75 (by have := (nI_eq (by omega) (by omega)).mpr h; rwa [nI_0] at this)
          refine lv_iload hx hb d_Be_layMoved_82 (lv_at hl 1 rfl) ?_
          refine lv_bipush (v := nI (32)) hx hb d_Be_layMoved_84 (by decide) ?_
          refine lv_iload_n hx hb d_Be_layMoved_86 rfl (lv_at hl 5 rfl) ?_
          refine nw_isub (v := nI (32 - up)) hx hb d_Be_layMoved_87 (pk_sub (by omega)) ?_
          refine lv_iushr (v := us y (32 - up)) hx hb d_Be_layMoved_88 rfl ?_
          refine nw_sR hx hb hKW.1 hP hD hS (j := p0 + (sL w a)) (by omega) d_Be_layMoved_89 (fun H locs hP hD hS => ?_)
          exact W.vret hx hb hr (fun t ht hW => ⟨⟨pR w (upd f (p0 + sL w a) (us y (32 - up))), rfl, ⟨_, rfl, so_upd hso, by rw [vN_push, lm_top hup c75, hinv, hv.2.2]⟩, BW_of ht hP⟩, hS.F ht⟩) hS.2.2 d_Be_layMoved_90
        · skip
          have c75 : up = 0 := (nI_eq (by omega) (by omega)).mp (by rw [nI_0]; exact c75)
          refine lv_iconst (v := nI (0)) hx hb d_Be_layMoved_78 (by decide) ?_
          refine lv_goto (tgt := 89) hx hb d_Be_layMoved_79 (by decide) ?_
          refine nw_sR hx hb hKW.1 hP hD hS (j := p0 + (sL w a)) (by omega) d_Be_layMoved_89 (fun H locs hP hD hS => ?_)
          have hy := wN_lt y
          exact W.vret hx hb hr (fun t ht hW => ⟨⟨pR w (upd f (p0 + sL w a) (nI 0)), rfl, ⟨_, rfl, so_upd hso, by rw [vN_push, nI_0, wN_0, Nat.zero_mul, Nat.add_zero, ← hv.2.2, ← hinv, c75, Nat.pow_zero, Nat.mul_one, Nat.div_eq_of_lt hy, Nat.zero_mul, Nat.add_zero]⟩, BW_of ht hP⟩, hS.F ht⟩) hS.2.2 d_Be_layMoved_90
      · exact absurd (nI_le (by omega) (by omega)) c12
    | succ n ih =>
      intro j f y H locs ls hj hinv hso hP hD hS hl
      refine lv_iload hx hb d_Be_layMoved_6 (lv_at hl 0 rfl) ?_
      refine lv_aload_n hx hb d_Be_layMoved_8 rfl (lv_at hl 4 rfl) ?_
      refine nw_gL hx hb hts hown hKW.1 hP (i := a) (by omega) (n := sL w a) rfl lf_Be_15 d_Be_layMoved_9 ?_
      refine lv_icmp_ge (tgt := 64) hx hb d_Be_layMoved_12 (by decide) (fun c12 => ?_) (fun c12 => ?_)
      · exact absurd c12 (nI_ge (by omega) (by omega))
      · skip
        refine lv_aload_n hx hb d_Be_layMoved_15 rfl (lv_at hl 4 rfl) ?_
        refine nw_gW hx hb hts hown hKW.1 hP (i := a) (by omega) lf_Be_21 d_Be_layMoved_16 ?_
        refine lv_iload hx hb d_Be_layMoved_19 (lv_at hl 0 rfl) ?_
        refine nw_lW hx hb hKW.1 hP (i := a) (by omega) (j := j) (by omega) (x := sW w a j) rfl d_Be_layMoved_21 ?_
        refine lv_istore (lv' := [(6, .int (sW w a j)), (5, .int (nI (j))), (4, .int (y)), (0, .ref (ad 2)), (1, .int (nI (p0))), (2, .ref (ad (2 * a + 8))), (3, .int (nI (up)))]) hx hb d_Be_layMoved_22 hl (by decide) rfl (fun ls hl => ?_)
        refine lv_aload_n hx hb d_Be_layMoved_24 rfl (lv_at hl 3 rfl) ?_
        refine nw_gR hx hb hts hown hKW.1 hP lf_Be_11 d_Be_layMoved_25 ?_
        refine lv_iload_n hx hb d_Be_layMoved_28 rfl (lv_at hl 4 rfl) ?_
        refine lv_iload hx hb d_Be_layMoved_29 (lv_at hl 1 rfl) ?_
        refine nw_iadd (v := nI (p0 + j)) hx hb d_Be_layMoved_31 (nI_add _ _) ?_
        refine lv_iload_n hx hb d_Be_layMoved_32 rfl (lv_at hl 6 rfl) ?_
        refine lv_if_ne (tgt := 41) hx hb d_Be_layMoved_33 (by decide) (fun c33 => ?_) (fun c33 => ?_)
        · skip
          have c33 : ¬ (up = 0) := fun h => c33 (by have := (nI_eq (by omega) (by omega)).mpr h; rwa [nI_0] at this)
          refine lv_iload hx hb d_Be_layMoved_41 (lv_at hl 0 rfl) ?_
          refine lv_iload_n hx hb d_Be_layMoved_43 rfl (lv_at hl 6 rfl) ?_
          refine nw_ishl (v := sl (sW w a j) up) hx hb d_Be_layMoved_44 rfl ?_
          refine lv_iload hx hb d_Be_layMoved_45 (lv_at hl 2 rfl) ?_
          refine lv_bipush (v := nI (32)) hx hb d_Be_layMoved_47 (by decide) ?_
          refine lv_iload_n hx hb d_Be_layMoved_49 rfl (lv_at hl 6 rfl) ?_
          refine nw_isub (v := nI (32 - up)) hx hb d_Be_layMoved_50 (pk_sub (by omega)) ?_
          refine lv_iushr (v := us y (32 - up)) hx hb d_Be_layMoved_51 rfl ?_
          refine nw_ior (v := (sl (sW w a j) up) ||| (us y (32 - up))) hx hb d_Be_layMoved_52 rfl ?_
          refine nw_sR hx hb hKW.1 hP hD hS (j := p0 + j) (by omega) d_Be_layMoved_53 (fun H locs hP hD hS => ?_)
          refine lv_iload hx hb d_Be_layMoved_54 (lv_at hl 0 rfl) ?_
          refine lv_istore (lv' := [(4, .int (sW w a j)), (6, .int (sW w a j)), (5, .int (nI (j))), (0, .ref (ad 2)), (1, .int (nI (p0))), (2, .ref (ad (2 * a + 8))), (3, .int (nI (up)))]) hx hb d_Be_layMoved_56 hl (by decide) rfl (fun ls hl => ?_)
          refine lv_iinc (v := nI (j + 1)) (lv' := [(5, .int (nI (j + 1))), (4, .int (sW w a j)), (6, .int (sW w a j)), (0, .ref (ad 2)), (1, .int (nI (p0))), (2, .ref (ad (2 * a + 8))), (3, .int (nI (up)))]) hx hb d_Be_layMoved_58 hl (k := 2) rfl (nI_add _ 1) (by decide) rfl (fun ls hl => ?_)
          refine lv_goto (tgt := 6) hx hb d_Be_layMoved_61 (by decide) ?_
          have hP : va_P D clA (NC cI cB cR ad (pR w (upd f (p0 + j) (sl (sW w a j) up ||| us y (32 - up))))) H := hP
          have hD : va_D (AA ad s.heap.size) (NC cI cB cR ad (pR w (upd f (p0 + j) (sl (sW w a j) up ||| us y (32 - up))))) := hD
          rw [show (sl (sW w a j) up ||| us y (32 - up)) = upw up (sW w a j) y from (if_neg c33).symm] at hP hD
          exact ih (j + 1) (upd f (p0 + j) (upw up (sW w a j) y)) (sW w a j) H locs ls (by omega) (lm_step hup rfl hinv) (so_upd hso) hP hD hS (lv_sub hl [0, 1, 3, 4, 5, 6] rfl)
        · skip
          have c33 : up = 0 := (nI_eq (by omega) (by omega)).mp (by rw [nI_0]; exact c33)
          refine lv_iload hx hb d_Be_layMoved_36 (lv_at hl 0 rfl) ?_
          refine lv_goto (tgt := 53) hx hb d_Be_layMoved_38 (by decide) ?_
          refine nw_sR hx hb hKW.1 hP hD hS (j := p0 + j) (by omega) d_Be_layMoved_53 (fun H locs hP hD hS => ?_)
          refine lv_iload hx hb d_Be_layMoved_54 (lv_at hl 0 rfl) ?_
          refine lv_istore (lv' := [(4, .int (sW w a j)), (6, .int (sW w a j)), (5, .int (nI (j))), (0, .ref (ad 2)), (1, .int (nI (p0))), (2, .ref (ad (2 * a + 8))), (3, .int (nI (up)))]) hx hb d_Be_layMoved_56 hl (by decide) rfl (fun ls hl => ?_)
          refine lv_iinc (v := nI (j + 1)) (lv' := [(5, .int (nI (j + 1))), (4, .int (sW w a j)), (6, .int (sW w a j)), (0, .ref (ad 2)), (1, .int (nI (p0))), (2, .ref (ad (2 * a + 8))), (3, .int (nI (up)))]) hx hb d_Be_layMoved_58 hl (k := 2) rfl (nI_add _ 1) (by decide) rfl (fun ls hl => ?_)
          refine lv_goto (tgt := 6) hx hb d_Be_layMoved_61 (by decide) ?_
          have hP : va_P D clA (NC cI cB cR ad (pR w (upd f (p0 + j) (sW w a j)))) H := hP
          have hD : va_D (AA ad s.heap.size) (NC cI cB cR ad (pR w (upd f (p0 + j) (sW w a j)))) := hD
          rw [show (sW w a j) = upw up (sW w a j) y from (if_pos c33).symm] at hP hD
          exact ih (j + 1) (upd f (p0 + j) (upw up (sW w a j) y)) (sW w a j) H locs ls (by omega) (lm_step hup rfl hinv) (so_upd hso) hP hD hS (lv_sub hl [0, 1, 3, 4, 5, 6] rfl)
  exact loop (sL w a) 0 (sR w) (nI 0) _ _ ls (by omega) (by show 0 + wN (nI 0) * 2 ^ up / 4294967296 * 4294967296 ^ 0 = 0 * 2 ^ up; rw [nI_0, wN_0, Nat.zero_mul, Nat.zero_div, Nat.zero_mul]) (so_refl _ _ _) hP hD hS (lv_sub hl [0, 1, 2, 3, 4, 5] rfl)
set_option maxHeartbeats 4000000 in
set_option maxRecDepth 100000 in
/-- shareOf(both, first) -/
theorem c_Be_shareOf (l : Launch) {D : va_G} {cI cB cR : ClassId} {ad : Nat → Nat} (w : St) (sz : Nat) {b d : Nat} (hb2 : b < 2 ^ 64) (h0 : 0 < d) (hd : d < 4294967296) : Met l y_Be_shareOf (q_Be_shareOf :: wA) { frames := 0, cells := 0, slots := 0, locals := 0 } (va_Pc [.long (lN (b)), .long (lN (d))] (PW D cI cB cR ad w sz)) (va_Ql (fun (r : Int64) (w1 : St) => r = lN (b / d) ∧ w1 = w) (BW D cI cB cR ad) (AA ad sz)) 0 0 (AA ad sz) := by
  refine Met.ofW (cc := b_Be_shareOf) (maxL := 6) (ret := (some (.long))) (by decide) rfl ?_
  intro p e s m args below meth c s₁ B hml hv
  obtain ⟨rfl, hsz, hP, hD0, hKW⟩ := hv
  have hx := B.exec
  have hb := B.bytes
  have hr := B.returns
  have hts := atoms_spec (ws := q_Be_shareOf :: wA) B.pre
  have hown : s.vm.findClass R_Be = some m.cls := findClass_of_methodNamed B.named
  have hlocks := B.notSynchronized
  subst hsz
  have hD := NC_AA (sz := s.heap.size) hD0
  have hS : va_S (AA ad s.heap.size) s.heap s.heap [] := va_S.rf
  have hl := lv_entry ([.long (lN (b)), .long (lN (d))]) (n := 6) (Nat.le_of_ble_eq_true rfl)
  rw [lg_entry_eq]
  generalize (lg_sl ([.long (lN (b)), .long (lN (d))]) ++ List.replicate (6 - (lg_sl ([.long (lN (b)), .long (lN (d))])).length) Slot.unset).toArray = ls at hl ⊢
  have hl : lv_has ls 6 [(0, .long (lN (b))), (2, .long (lN (d)))] := hl
  obtain ⟨q1, q2, q3, q4⟩ := sh_eq (b := b) h0
  have hq : b / 2 / d ≤ b / 2 := Nat.div_le_self _ _
  refine lv_lload_n hx hb d_Be_shareOf_0 rfl (lv_at hl 0 rfl) ?_
  refine lv_iconst (v := nI (1)) hx hb d_Be_shareOf_1 (by decide) ?_
  refine lv_lushr (v := lN (b / 2)) hx hb d_Be_shareOf_2 (lN_shr hb2 (by decide)) ?_
  refine lv_lload_n hx hb d_Be_shareOf_3 rfl (lv_at hl 1 rfl) ?_
  refine nw_ldiv (v := lN (b / 2 / d)) hx hb d_Be_shareOf_4 (lN_ne0 h0 (by omega)) (pk_lDiv (by omega) h0 (by omega)) ?_
  refine lv_iconst (v := nI (1)) hx hb d_Be_shareOf_5 (by decide) ?_
  refine lv_lshl (v := lN (b / 2 / d * 2)) hx hb d_Be_shareOf_6 (lN_shl _ (by decide)) ?_
  refine lv_lstore (lv' := [(4, .long (lN (b / 2 / d * 2))), (0, .long (lN (b))), (2, .long (lN (d)))]) hx hb d_Be_shareOf_7 hl (by decide) rfl (fun ls hl => ?_)
  refine lv_lload_n hx hb d_Be_shareOf_9 rfl (lv_at hl 1 rfl) ?_
  refine lv_lload hx hb d_Be_shareOf_10 (lv_at hl 0 rfl) ?_
  refine lv_lload_n hx hb d_Be_shareOf_12 rfl (lv_at hl 2 rfl) ?_
  refine nw_lmul (v := lN (b / 2 / d * 2 * d)) hx hb d_Be_shareOf_13 (lN_mul _ _) ?_
  refine nw_lsub (v := lN (b - b / 2 / d * 2 * d)) hx hb d_Be_shareOf_14 (lN_sub q2) ?_
  refine lv_lload_n hx hb d_Be_shareOf_15 rfl (lv_at hl 2 rfl) ?_
  refine W.lcmp hx hb d_Be_shareOf_16 ?_
  refine lv_if_ge (tgt := 25) hx hb d_Be_shareOf_17 (by decide) (fun c17 => ?_) (fun c17 => ?_)
  · skip
    have c17 : ¬ b - b / 2 / d * 2 * d < d := fun h => absurd ((pk_lLE (by omega) (by omega)).mp ((lg_cmp_ge _ _).mp c17)) (by omega)
    refine lv_lload hx hb d_Be_shareOf_25 (lv_at hl 0 rfl) ?_
    refine lv_lconst (v := lN (1)) hx hb d_Be_shareOf_27 (by decide) ?_
    refine nw_ladd (v := lN (b / 2 / d * 2 + 1)) hx hb d_Be_shareOf_28 (lN_add _ _) ?_
    rw [← q4 c17]
    exact W.lret (v := lN (b / d)) hx hb hr (fun t ht hW => ⟨⟨_, w, rfl, ⟨rfl, rfl⟩, BW_of ht hP⟩, hS.F ht⟩) hS.2.2 d_Be_shareOf_29
  · skip
    have c17 : b - b / 2 / d * 2 * d < d := Nat.not_le.mp (fun h => c17 ((lg_cmp_ge _ _).mpr ((pk_lLE (by omega) (by omega)).mpr h)))
    refine lv_lload hx hb d_Be_shareOf_20 (lv_at hl 0 rfl) ?_
    refine lv_goto (tgt := 29) hx hb d_Be_shareOf_22 (by decide) ?_
    rw [← q3 c17]
    exact W.lret (v := lN (b / d)) hx hb hr (fun t ht hW => ⟨⟨_, w, rfl, ⟨rfl, rfl⟩, BW_of ht hP⟩, hS.F ht⟩) hS.2.2 d_Be_shareOf_29
end
