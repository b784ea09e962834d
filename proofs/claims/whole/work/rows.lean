section
-- ===== PART A: goes FIRST, ahead of the names: the tables' words, and 'selects' of the private methods out of them =====
/-- a private method of a class that the tables say can be made, by its rows of tables_1 -/
def lw_okq (q : MethodName × Nat) : Prop := (q.1.cls ≠ "java/lang/invoke/MethodHandle" ∧ q.1.cls ≠ "java/lang/invoke/VarHandle") ∧ Cond.instantiable q.1.cls q.2 ∈ tables_1 ∧ Cond.privateMethod q.1 ∈ tables_1 ∧ Cond.instanceMethod q.1 ∈ tables_1
theorem lw_p0 : lw_okq (⟨"NameBook", "found", "(I)I"⟩, 9) := ⟨⟨by decide +kernel, by decide +kernel⟩, List.mem_of_getElem? (i := 17) (by decide +kernel), List.mem_of_getElem? (i := 247) (by decide +kernel), List.mem_of_getElem? (i := 248) (by decide +kernel)⟩
theorem lw_p1 : lw_okq (⟨"NameBook$Book", "isAtHand", "(I)Z"⟩, 15) := ⟨⟨by decide +kernel, by decide +kernel⟩, List.mem_of_getElem? (i := 25) (by decide +kernel), List.mem_of_getElem? (i := 329) (by decide +kernel), List.mem_of_getElem? (i := 330) (by decide +kernel)⟩
theorem lw_p2 : lw_okq (⟨"NameBook", "isTooLate", "(I)Z"⟩, 9) := ⟨⟨by decide +kernel, by decide +kernel⟩, List.mem_of_getElem? (i := 17) (by decide +kernel), List.mem_of_getElem? (i := 392) (by decide +kernel), List.mem_of_getElem? (i := 393) (by decide +kernel)⟩
theorem lw_p3 : lw_okq (⟨"NameBook$Walk", "bearersWork", "(LNameBook$Book;)V"⟩, 1) := ⟨⟨by decide +kernel, by decide +kernel⟩, List.mem_of_getElem? (i := 113) (by decide +kernel), List.mem_of_getElem? (i := 408) (by decide +kernel), List.mem_of_getElem? (i := 409) (by decide +kernel)⟩
theorem lw_p4 : lw_okq (⟨"NameBook$Walk", "workOn", "(LNameBook$Book;II)V"⟩, 1) := ⟨⟨by decide +kernel, by decide +kernel⟩, List.mem_of_getElem? (i := 113) (by decide +kernel), List.mem_of_getElem? (i := 412) (by decide +kernel), List.mem_of_getElem? (i := 413) (by decide +kernel)⟩
theorem lw_p5 : lw_okq (⟨"NameBook$Walk", "helpersWork", "(LNameBook$Book;)V"⟩, 1) := ⟨⟨by decide +kernel, by decide +kernel⟩, List.mem_of_getElem? (i := 113) (by decide +kernel), List.mem_of_getElem? (i := 426) (by decide +kernel), List.mem_of_getElem? (i := 427) (by decide +kernel)⟩
theorem lw_p6 : lw_okq (⟨"NameBook$Walk", "tasksGrow", "(LNameBook$Book;)V"⟩, 1) := ⟨⟨by decide +kernel, by decide +kernel⟩, List.mem_of_getElem? (i := 113) (by decide +kernel), List.mem_of_getElem? (i := 430) (by decide +kernel), List.mem_of_getElem? (i := 431) (by decide +kernel)⟩
theorem lw_p7 : lw_okq (⟨"NameBook$Walk", "personsAge", "(LNameBook$Book;)V"⟩, 1) := ⟨⟨by decide +kernel, by decide +kernel⟩, List.mem_of_getElem? (i := 113) (by decide +kernel), List.mem_of_getElem? (i := 438) (by decide +kernel), List.mem_of_getElem? (i := 439) (by decide +kernel)⟩
theorem lw_p8 : lw_okq (⟨"NameBook$Walk", "leave", "(LNameBook$Book;I)V"⟩, 1) := ⟨⟨by decide +kernel, by decide +kernel⟩, List.mem_of_getElem? (i := 113) (by decide +kernel), List.mem_of_getElem? (i := 442) (by decide +kernel), List.mem_of_getElem? (i := 443) (by decide +kernel)⟩
theorem lw_p9 : lw_okq (⟨"NameBook", "lookAhead", "(I)V"⟩, 9) := ⟨⟨by decide +kernel, by decide +kernel⟩, List.mem_of_getElem? (i := 17) (by decide +kernel), List.mem_of_getElem? (i := 452) (by decide +kernel), List.mem_of_getElem? (i := 453) (by decide +kernel)⟩
theorem lw_p10 : lw_okq (⟨"NameBook", "isShutInTime", "(III)Z"⟩, 9) := ⟨⟨by decide +kernel, by decide +kernel⟩, List.mem_of_getElem? (i := 17) (by decide +kernel), List.mem_of_getElem? (i := 498) (by decide +kernel), List.mem_of_getElem? (i := 499) (by decide +kernel)⟩
theorem lw_p11 : lw_okq (⟨"NameBook", "whyNoGiving", "(I)I"⟩, 9) := ⟨⟨by decide +kernel, by decide +kernel⟩, List.mem_of_getElem? (i := 17) (by decide +kernel), List.mem_of_getElem? (i := 510) (by decide +kernel), List.mem_of_getElem? (i := 511) (by decide +kernel)⟩
theorem lw_p12 : lw_okq (⟨"NameBook$Giving", "findGains", "(LNameBook$Book;I)V"⟩, 10) := ⟨⟨by decide +kernel, by decide +kernel⟩, List.mem_of_getElem? (i := 123) (by decide +kernel), List.mem_of_getElem? (i := 523) (by decide +kernel), List.mem_of_getElem? (i := 524) (by decide +kernel)⟩
theorem lw_p13 : lw_okq (⟨"NameBook$Book", "mostWorkOf", "(II)I"⟩, 15) := ⟨⟨by decide +kernel, by decide +kernel⟩, List.mem_of_getElem? (i := 25) (by decide +kernel), List.mem_of_getElem? (i := 538) (by decide +kernel), List.mem_of_getElem? (i := 539) (by decide +kernel)⟩
theorem lw_p14 : lw_okq (⟨"NameBook$Giving", "weigh", "(LNameBook$Book;I)V"⟩, 10) := ⟨⟨by decide +kernel, by decide +kernel⟩, List.mem_of_getElem? (i := 123) (by decide +kernel), List.mem_of_getElem? (i := 552) (by decide +kernel), List.mem_of_getElem? (i := 553) (by decide +kernel)⟩
theorem lw_p15 : lw_okq (⟨"NameBook$Tape", "advance", "()V"⟩, 6) := ⟨⟨by decide +kernel, by decide +kernel⟩, List.mem_of_getElem? (i := 162) (by decide +kernel), List.mem_of_getElem? (i := 612) (by decide +kernel), List.mem_of_getElem? (i := 613) (by decide +kernel)⟩
def lw_privs_1 : List (MethodName × Nat) := [(⟨"NameBook", "found", "(I)I"⟩, 9), (⟨"NameBook$Book", "isAtHand", "(I)Z"⟩, 15), (⟨"NameBook", "isTooLate", "(I)Z"⟩, 9), (⟨"NameBook$Walk", "bearersWork", "(LNameBook$Book;)V"⟩, 1), (⟨"NameBook$Walk", "workOn", "(LNameBook$Book;II)V"⟩, 1), (⟨"NameBook$Walk", "helpersWork", "(LNameBook$Book;)V"⟩, 1), (⟨"NameBook$Walk", "tasksGrow", "(LNameBook$Book;)V"⟩, 1), (⟨"NameBook$Walk", "personsAge", "(LNameBook$Book;)V"⟩, 1), (⟨"NameBook$Walk", "leave", "(LNameBook$Book;I)V"⟩, 1), (⟨"NameBook", "lookAhead", "(I)V"⟩, 9), (⟨"NameBook", "isShutInTime", "(III)Z"⟩, 9), (⟨"NameBook", "whyNoGiving", "(I)I"⟩, 9), (⟨"NameBook$Giving", "findGains", "(LNameBook$Book;I)V"⟩, 10), (⟨"NameBook$Book", "mostWorkOf", "(II)I"⟩, 15), (⟨"NameBook$Giving", "weigh", "(LNameBook$Book;I)V"⟩, 10), (⟨"NameBook$Tape", "advance", "()V"⟩, 6)]
theorem lw_r1 : ∀ q ∈ lw_privs_1, lw_okq q := List.forall_mem_cons.mpr ⟨lw_p0, List.forall_mem_cons.mpr ⟨lw_p1, List.forall_mem_cons.mpr ⟨lw_p2, List.forall_mem_cons.mpr ⟨lw_p3, List.forall_mem_cons.mpr ⟨lw_p4, List.forall_mem_cons.mpr ⟨lw_p5, List.forall_mem_cons.mpr ⟨lw_p6, List.forall_mem_cons.mpr ⟨lw_p7, List.forall_mem_cons.mpr ⟨lw_p8, List.forall_mem_cons.mpr ⟨lw_p9, List.forall_mem_cons.mpr ⟨lw_p10, List.forall_mem_cons.mpr ⟨lw_p11, List.forall_mem_cons.mpr ⟨lw_p12, List.forall_mem_cons.mpr ⟨lw_p13, List.forall_mem_cons.mpr ⟨lw_p14, List.forall_mem_cons.mpr ⟨lw_p15, fun _ h => absurd h List.not_mem_nil⟩⟩⟩⟩⟩⟩⟩⟩⟩⟩⟩⟩⟩⟩⟩⟩
theorem lw_p16 : lw_okq (⟨"NameBook$Tape", "isLetter", "(I)Z"⟩, 6) := ⟨⟨by decide +kernel, by decide +kernel⟩, List.mem_of_getElem? (i := 162) (by decide +kernel), List.mem_of_getElem? (i := 616) (by decide +kernel), List.mem_of_getElem? (i := 617) (by decide +kernel)⟩
theorem lw_p17 : lw_okq (⟨"NameBook$Tape", "isDigit", "(I)Z"⟩, 6) := ⟨⟨by decide +kernel, by decide +kernel⟩, List.mem_of_getElem? (i := 162) (by decide +kernel), List.mem_of_getElem? (i := 620) (by decide +kernel), List.mem_of_getElem? (i := 621) (by decide +kernel)⟩
theorem lw_p18 : lw_okq (⟨"NameBook$Tape", "readNumber", "()V"⟩, 6) := ⟨⟨by decide +kernel, by decide +kernel⟩, List.mem_of_getElem? (i := 162) (by decide +kernel), List.mem_of_getElem? (i := 624) (by decide +kernel), List.mem_of_getElem? (i := 625) (by decide +kernel)⟩
theorem lw_p19 : lw_okq (⟨"NameBook$Tape", "readItem", "(LNameBook$Book;)Z"⟩, 6) := ⟨⟨by decide +kernel, by decide +kernel⟩, List.mem_of_getElem? (i := 162) (by decide +kernel), List.mem_of_getElem? (i := 629) (by decide +kernel), List.mem_of_getElem? (i := 630) (by decide +kernel)⟩
theorem lw_p20 : lw_okq (⟨"NameBook$Tape", "passWord", "(Ljava/lang/String;)Z"⟩, 6) := ⟨⟨by decide +kernel, by decide +kernel⟩, List.mem_of_getElem? (i := 162) (by decide +kernel), List.mem_of_getElem? (i := 634) (by decide +kernel), List.mem_of_getElem? (i := 635) (by decide +kernel)⟩
theorem lw_p21 : lw_okq (⟨"NameBook$Tape", "isWord", "(Ljava/lang/String;)Z"⟩, 6) := ⟨⟨by decide +kernel, by decide +kernel⟩, List.mem_of_getElem? (i := 162) (by decide +kernel), List.mem_of_getElem? (i := 638) (by decide +kernel), List.mem_of_getElem? (i := 639) (by decide +kernel)⟩
theorem lw_p22 : lw_okq (⟨"NameBook$Tape", "readName", "(LNameBook$Book;)Z"⟩, 6) := ⟨⟨by decide +kernel, by decide +kernel⟩, List.mem_of_getElem? (i := 162) (by decide +kernel), List.mem_of_getElem? (i := 690) (by decide +kernel), List.mem_of_getElem? (i := 691) (by decide +kernel)⟩
theorem lw_p23 : lw_okq (⟨"NameBook$Tape", "passNumber", "(II)I"⟩, 6) := ⟨⟨by decide +kernel, by decide +kernel⟩, List.mem_of_getElem? (i := 162) (by decide +kernel), List.mem_of_getElem? (i := 694) (by decide +kernel), List.mem_of_getElem? (i := 695) (by decide +kernel)⟩
theorem lw_p24 : lw_okq (⟨"NameBook$Tape", "readPerson", "(LNameBook$Book;)Z"⟩, 6) := ⟨⟨by decide +kernel, by decide +kernel⟩, List.mem_of_getElem? (i := 162) (by decide +kernel), List.mem_of_getElem? (i := 700) (by decide +kernel), List.mem_of_getElem? (i := 701) (by decide +kernel)⟩
theorem lw_p25 : lw_okq (⟨"NameBook$Tape", "kindHere", "()I"⟩, 6) := ⟨⟨by decide +kernel, by decide +kernel⟩, List.mem_of_getElem? (i := 162) (by decide +kernel), List.mem_of_getElem? (i := 709) (by decide +kernel), List.mem_of_getElem? (i := 710) (by decide +kernel)⟩
theorem lw_p26 : lw_okq (⟨"NameBook$Tape", "readTask", "(LNameBook$Book;I)Z"⟩, 6) := ⟨⟨by decide +kernel, by decide +kernel⟩, List.mem_of_getElem? (i := 162) (by decide +kernel), List.mem_of_getElem? (i := 720) (by decide +kernel), List.mem_of_getElem? (i := 721) (by decide +kernel)⟩
theorem lw_p27 : lw_okq (⟨"NameBookModel", "becomes", "(II)I"⟩, 18) := ⟨⟨by decide +kernel, by decide +kernel⟩, List.mem_of_getElem? (i := 801) (by decide +kernel), List.mem_of_getElem? (i := 874) (by decide +kernel), List.mem_of_getElem? (i := 875) (by decide +kernel)⟩
theorem lw_p28 : lw_okq (⟨"NameBookModel", "finds", "(I)I"⟩, 18) := ⟨⟨by decide +kernel, by decide +kernel⟩, List.mem_of_getElem? (i := 801) (by decide +kernel), List.mem_of_getElem? (i := 879) (by decide +kernel), List.mem_of_getElem? (i := 880) (by decide +kernel)⟩
theorem lw_p29 : lw_okq (⟨"NameBookModel", "comes", "(IIII)V"⟩, 18) := ⟨⟨by decide +kernel, by decide +kernel⟩, List.mem_of_getElem? (i := 801) (by decide +kernel), List.mem_of_getElem? (i := 893) (by decide +kernel), List.mem_of_getElem? (i := 894) (by decide +kernel)⟩
theorem lw_p30 : lw_okq (⟨"NameBookModel", "isTask", "(I)Z"⟩, 18) := ⟨⟨by decide +kernel, by decide +kernel⟩, List.mem_of_getElem? (i := 801) (by decide +kernel), List.mem_of_getElem? (i := 901) (by decide +kernel), List.mem_of_getElem? (i := 902) (by decide +kernel)⟩
theorem lw_p31 : lw_okq (⟨"NameBookModel", "task0", "(II)I"⟩, 18) := ⟨⟨by decide +kernel, by decide +kernel⟩, List.mem_of_getElem? (i := 801) (by decide +kernel), List.mem_of_getElem? (i := 906) (by decide +kernel), List.mem_of_getElem? (i := 907) (by decide +kernel)⟩
def lw_privs_2 : List (MethodName × Nat) := [(⟨"NameBook$Tape", "isLetter", "(I)Z"⟩, 6), (⟨"NameBook$Tape", "isDigit", "(I)Z"⟩, 6), (⟨"NameBook$Tape", "readNumber", "()V"⟩, 6), (⟨"NameBook$Tape", "readItem", "(LNameBook$Book;)Z"⟩, 6), (⟨"NameBook$Tape", "passWord", "(Ljava/lang/String;)Z"⟩, 6), (⟨"NameBook$Tape", "isWord", "(Ljava/lang/String;)Z"⟩, 6), (⟨"NameBook$Tape", "readName", "(LNameBook$Book;)Z"⟩, 6), (⟨"NameBook$Tape", "passNumber", "(II)I"⟩, 6), (⟨"NameBook$Tape", "readPerson", "(LNameBook$Book;)Z"⟩, 6), (⟨"NameBook$Tape", "kindHere", "()I"⟩, 6), (⟨"NameBook$Tape", "readTask", "(LNameBook$Book;I)Z"⟩, 6), (⟨"NameBookModel", "becomes", "(II)I"⟩, 18), (⟨"NameBookModel", "finds", "(I)I"⟩, 18), (⟨"NameBookModel", "comes", "(IIII)V"⟩, 18), (⟨"NameBookModel", "isTask", "(I)Z"⟩, 18), (⟨"NameBookModel", "task0", "(II)I"⟩, 18)]
theorem lw_r2 : ∀ q ∈ lw_privs_2, lw_okq q := List.forall_mem_cons.mpr ⟨lw_p16, List.forall_mem_cons.mpr ⟨lw_p17, List.forall_mem_cons.mpr ⟨lw_p18, List.forall_mem_cons.mpr ⟨lw_p19, List.forall_mem_cons.mpr ⟨lw_p20, List.forall_mem_cons.mpr ⟨lw_p21, List.forall_mem_cons.mpr ⟨lw_p22, List.forall_mem_cons.mpr ⟨lw_p23, List.forall_mem_cons.mpr ⟨lw_p24, List.forall_mem_cons.mpr ⟨lw_p25, List.forall_mem_cons.mpr ⟨lw_p26, List.forall_mem_cons.mpr ⟨lw_p27, List.forall_mem_cons.mpr ⟨lw_p28, List.forall_mem_cons.mpr ⟨lw_p29, List.forall_mem_cons.mpr ⟨lw_p30, List.forall_mem_cons.mpr ⟨lw_p31, fun _ h => absurd h List.not_mem_nil⟩⟩⟩⟩⟩⟩⟩⟩⟩⟩⟩⟩⟩⟩⟩⟩
theorem lw_p32 : lw_okq (⟨"NameBookModel", "grows", "(I)I"⟩, 18) := ⟨⟨by decide +kernel, by decide +kernel⟩, List.mem_of_getElem? (i := 801) (by decide +kernel), List.mem_of_getElem? (i := 910) (by decide +kernel), List.mem_of_getElem? (i := 911) (by decide +kernel)⟩
theorem lw_p33 : lw_okq (⟨"NameBookModel", "isEnded", "(I)Z"⟩, 18) := ⟨⟨by decide +kernel, by decide +kernel⟩, List.mem_of_getElem? (i := 801) (by decide +kernel), List.mem_of_getElem? (i := 914) (by decide +kernel), List.mem_of_getElem? (i := 915) (by decide +kernel)⟩
theorem lw_p34 : lw_okq (⟨"NameBookModel", "comesTo", "(II)Z"⟩, 18) := ⟨⟨by decide +kernel, by decide +kernel⟩, List.mem_of_getElem? (i := 801) (by decide +kernel), List.mem_of_getElem? (i := 918) (by decide +kernel), List.mem_of_getElem? (i := 919) (by decide +kernel)⟩
theorem lw_p35 : lw_okq (⟨"NameBookModel", "waitsFor", "(I)I"⟩, 18) := ⟨⟨by decide +kernel, by decide +kernel⟩, List.mem_of_getElem? (i := 801) (by decide +kernel), List.mem_of_getElem? (i := 922) (by decide +kernel), List.mem_of_getElem? (i := 923) (by decide +kernel)⟩
theorem lw_p36 : lw_okq (⟨"NameBookModel", "isOpen", "(I)Z"⟩, 18) := ⟨⟨by decide +kernel, by decide +kernel⟩, List.mem_of_getElem? (i := 801) (by decide +kernel), List.mem_of_getElem? (i := 942) (by decide +kernel), List.mem_of_getElem? (i := 943) (by decide +kernel)⟩
theorem lw_p37 : lw_okq (⟨"NameBookModel", "bearer", "(I)I"⟩, 18) := ⟨⟨by decide +kernel, by decide +kernel⟩, List.mem_of_getElem? (i := 801) (by decide +kernel), List.mem_of_getElem? (i := 946) (by decide +kernel), List.mem_of_getElem? (i := 947) (by decide +kernel)⟩
theorem lw_p38 : lw_okq (⟨"NameBookModel", "person0", "(II)I"⟩, 18) := ⟨⟨by decide +kernel, by decide +kernel⟩, List.mem_of_getElem? (i := 801) (by decide +kernel), List.mem_of_getElem? (i := 950) (by decide +kernel), List.mem_of_getElem? (i := 951) (by decide +kernel)⟩
theorem lw_p39 : lw_okq (⟨"NameBookModel", "sumOf", "(IZ)I"⟩, 18) := ⟨⟨by decide +kernel, by decide +kernel⟩, List.mem_of_getElem? (i := 801) (by decide +kernel), List.mem_of_getElem? (i := 954) (by decide +kernel), List.mem_of_getElem? (i := 955) (by decide +kernel)⟩
theorem lw_p40 : lw_okq (⟨"NameBookModel", "atHand", "(I)I"⟩, 18) := ⟨⟨by decide +kernel, by decide +kernel⟩, List.mem_of_getElem? (i := 801) (by decide +kernel), List.mem_of_getElem? (i := 958) (by decide +kernel), List.mem_of_getElem? (i := 959) (by decide +kernel)⟩
theorem lw_p41 : lw_okq (⟨"NameBookModel", "isBorn", "(III)V"⟩, 18) := ⟨⟨by decide +kernel, by decide +kernel⟩, List.mem_of_getElem? (i := 801) (by decide +kernel), List.mem_of_getElem? (i := 978) (by decide +kernel), List.mem_of_getElem? (i := 979) (by decide +kernel)⟩
theorem lw_p42 : lw_okq (⟨"NameBookModel", "isPerson", "(I)Z"⟩, 18) := ⟨⟨by decide +kernel, by decide +kernel⟩, List.mem_of_getElem? (i := 801) (by decide +kernel), List.mem_of_getElem? (i := 986) (by decide +kernel), List.mem_of_getElem? (i := 987) (by decide +kernel)⟩
theorem lw_p43 : lw_okq (⟨"NameBookModel", "wrongTake", "(II)I"⟩, 18) := ⟨⟨by decide +kernel, by decide +kernel⟩, List.mem_of_getElem? (i := 801) (by decide +kernel), List.mem_of_getElem? (i := 1004) (by decide +kernel), List.mem_of_getElem? (i := 1005) (by decide +kernel)⟩
theorem lw_p44 : lw_okq (⟨"NameBookModel", "draw", "()I"⟩, 18) := ⟨⟨by decide +kernel, by decide +kernel⟩, List.mem_of_getElem? (i := 801) (by decide +kernel), List.mem_of_getElem? (i := 1018) (by decide +kernel), List.mem_of_getElem? (i := 1019) (by decide +kernel)⟩
theorem lw_p45 : lw_okq (⟨"NameBookModel", "isFarOn", "(I)Z"⟩, 18) := ⟨⟨by decide +kernel, by decide +kernel⟩, List.mem_of_getElem? (i := 801) (by decide +kernel), List.mem_of_getElem? (i := 1028) (by decide +kernel), List.mem_of_getElem? (i := 1029) (by decide +kernel)⟩
theorem lw_p46 : lw_okq (⟨"NameBookModel", "ended", "()I"⟩, 18) := ⟨⟨by decide +kernel, by decide +kernel⟩, List.mem_of_getElem? (i := 801) (by decide +kernel), List.mem_of_getElem? (i := 1032) (by decide +kernel), List.mem_of_getElem? (i := 1033) (by decide +kernel)⟩
theorem lw_p47 : lw_okq (⟨"NameBookModel", "unended", "()I"⟩, 18) := ⟨⟨by decide +kernel, by decide +kernel⟩, List.mem_of_getElem? (i := 801) (by decide +kernel), List.mem_of_getElem? (i := 1036) (by decide +kernel), List.mem_of_getElem? (i := 1037) (by decide +kernel)⟩
def lw_privs_3 : List (MethodName × Nat) := [(⟨"NameBookModel", "grows", "(I)I"⟩, 18), (⟨"NameBookModel", "isEnded", "(I)Z"⟩, 18), (⟨"NameBookModel", "comesTo", "(II)Z"⟩, 18), (⟨"NameBookModel", "waitsFor", "(I)I"⟩, 18), (⟨"NameBookModel", "isOpen", "(I)Z"⟩, 18), (⟨"NameBookModel", "bearer", "(I)I"⟩, 18), (⟨"NameBookModel", "person0", "(II)I"⟩, 18), (⟨"NameBookModel", "sumOf", "(IZ)I"⟩, 18), (⟨"NameBookModel", "atHand", "(I)I"⟩, 18), (⟨"NameBookModel", "isBorn", "(III)V"⟩, 18), (⟨"NameBookModel", "isPerson", "(I)Z"⟩, 18), (⟨"NameBookModel", "wrongTake", "(II)I"⟩, 18), (⟨"NameBookModel", "draw", "()I"⟩, 18), (⟨"NameBookModel", "isFarOn", "(I)Z"⟩, 18), (⟨"NameBookModel", "ended", "()I"⟩, 18), (⟨"NameBookModel", "unended", "()I"⟩, 18)]
theorem lw_r3 : ∀ q ∈ lw_privs_3, lw_okq q := List.forall_mem_cons.mpr ⟨lw_p32, List.forall_mem_cons.mpr ⟨lw_p33, List.forall_mem_cons.mpr ⟨lw_p34, List.forall_mem_cons.mpr ⟨lw_p35, List.forall_mem_cons.mpr ⟨lw_p36, List.forall_mem_cons.mpr ⟨lw_p37, List.forall_mem_cons.mpr ⟨lw_p38, List.forall_mem_cons.mpr ⟨lw_p39, List.forall_mem_cons.mpr ⟨lw_p40, List.forall_mem_cons.mpr ⟨lw_p41, List.forall_mem_cons.mpr ⟨lw_p42, List.forall_mem_cons.mpr ⟨lw_p43, List.forall_mem_cons.mpr ⟨lw_p44, List.forall_mem_cons.mpr ⟨lw_p45, List.forall_mem_cons.mpr ⟨lw_p46, List.forall_mem_cons.mpr ⟨lw_p47, fun _ h => absurd h List.not_mem_nil⟩⟩⟩⟩⟩⟩⟩⟩⟩⟩⟩⟩⟩⟩⟩⟩
theorem lw_p48 : lw_okq (⟨"NameBookModel", "yearsGo", "(I)V"⟩, 18) := ⟨⟨by decide +kernel, by decide +kernel⟩, List.mem_of_getElem? (i := 801) (by decide +kernel), List.mem_of_getElem? (i := 1040) (by decide +kernel), List.mem_of_getElem? (i := 1041) (by decide +kernel)⟩
theorem lw_p49 : lw_okq (⟨"NameBookModel", "year", "()V"⟩, 18) := ⟨⟨by decide +kernel, by decide +kernel⟩, List.mem_of_getElem? (i := 801) (by decide +kernel), List.mem_of_getElem? (i := 1044) (by decide +kernel), List.mem_of_getElem? (i := 1045) (by decide +kernel)⟩
theorem lw_p50 : lw_okq (⟨"NameBookModel", "does", "(II)V"⟩, 18) := ⟨⟨by decide +kernel, by decide +kernel⟩, List.mem_of_getElem? (i := 801) (by decide +kernel), List.mem_of_getElem? (i := 1048) (by decide +kernel), List.mem_of_getElem? (i := 1049) (by decide +kernel)⟩
theorem lw_p51 : lw_okq (⟨"NameBookModel", "work", "(II)I"⟩, 18) := ⟨⟨by decide +kernel, by decide +kernel⟩, List.mem_of_getElem? (i := 801) (by decide +kernel), List.mem_of_getElem? (i := 1052) (by decide +kernel), List.mem_of_getElem? (i := 1053) (by decide +kernel)⟩
theorem lw_p52 : lw_okq (⟨"NameBookModel", "isBorneThere", "(I)Z"⟩, 18) := ⟨⟨by decide +kernel, by decide +kernel⟩, List.mem_of_getElem? (i := 801) (by decide +kernel), List.mem_of_getElem? (i := 1056) (by decide +kernel), List.mem_of_getElem? (i := 1057) (by decide +kernel)⟩
theorem lw_p53 : lw_okq (⟨"NameBookModel", "helpsNow", "(I)V"⟩, 18) := ⟨⟨by decide +kernel, by decide +kernel⟩, List.mem_of_getElem? (i := 801) (by decide +kernel), List.mem_of_getElem? (i := 1063) (by decide +kernel), List.mem_of_getElem? (i := 1064) (by decide +kernel)⟩
theorem lw_p54 : lw_okq (⟨"NameBookModel", "isFree", "(I)Z"⟩, 18) := ⟨⟨by decide +kernel, by decide +kernel⟩, List.mem_of_getElem? (i := 801) (by decide +kernel), List.mem_of_getElem? (i := 1067) (by decide +kernel), List.mem_of_getElem? (i := 1068) (by decide +kernel)⟩
theorem lw_p55 : lw_okq (⟨"NameBookModel", "leaves", "(I)V"⟩, 18) := ⟨⟨by decide +kernel, by decide +kernel⟩, List.mem_of_getElem? (i := 801) (by decide +kernel), List.mem_of_getElem? (i := 1071) (by decide +kernel), List.mem_of_getElem? (i := 1072) (by decide +kernel)⟩
theorem lw_p56 : lw_okq (⟨"NameBookModel", "hours", "()I"⟩, 18) := ⟨⟨by decide +kernel, by decide +kernel⟩, List.mem_of_getElem? (i := 801) (by decide +kernel), List.mem_of_getElem? (i := 1084) (by decide +kernel), List.mem_of_getElem? (i := 1085) (by decide +kernel)⟩
theorem lw_p57 : lw_okq (⟨"NameBookModel", "openNames", "()I"⟩, 18) := ⟨⟨by decide +kernel, by decide +kernel⟩, List.mem_of_getElem? (i := 801) (by decide +kernel), List.mem_of_getElem? (i := 1088) (by decide +kernel), List.mem_of_getElem? (i := 1089) (by decide +kernel)⟩
theorem lw_p58 : lw_okq (⟨"NameBookModel", "endedWorth", "()I"⟩, 18) := ⟨⟨by decide +kernel, by decide +kernel⟩, List.mem_of_getElem? (i := 801) (by decide +kernel), List.mem_of_getElem? (i := 1092) (by decide +kernel), List.mem_of_getElem? (i := 1093) (by decide +kernel)⟩
theorem lw_p59 : lw_okq (⟨"NameBookModel", "allLives", "()I"⟩, 18) := ⟨⟨by decide +kernel, by decide +kernel⟩, List.mem_of_getElem? (i := 801) (by decide +kernel), List.mem_of_getElem? (i := 1096) (by decide +kernel), List.mem_of_getElem? (i := 1097) (by decide +kernel)⟩
theorem lw_p60 : lw_okq (⟨"NameBookModel", "overIn", "(III)I"⟩, 18) := ⟨⟨by decide +kernel, by decide +kernel⟩, List.mem_of_getElem? (i := 801) (by decide +kernel), List.mem_of_getElem? (i := 1104) (by decide +kernel), List.mem_of_getElem? (i := 1105) (by decide +kernel)⟩
theorem lw_p61 : lw_okq (⟨"NameBookModel", "isShutInTime", "(II)Z"⟩, 18) := ⟨⟨by decide +kernel, by decide +kernel⟩, List.mem_of_getElem? (i := 801) (by decide +kernel), List.mem_of_getElem? (i := 1117) (by decide +kernel), List.mem_of_getElem? (i := 1118) (by decide +kernel)⟩
theorem lw_p62 : lw_okq (⟨"NameBookModel", "orNone", "(I)I"⟩, 18) := ⟨⟨by decide +kernel, by decide +kernel⟩, List.mem_of_getElem? (i := 801) (by decide +kernel), List.mem_of_getElem? (i := 1121) (by decide +kernel), List.mem_of_getElem? (i := 1122) (by decide +kernel)⟩
theorem lw_p63 : lw_okq (⟨"NameBookModel", "wrongWay", "(I)I"⟩, 18) := ⟨⟨by decide +kernel, by decide +kernel⟩, List.mem_of_getElem? (i := 801) (by decide +kernel), List.mem_of_getElem? (i := 1133) (by decide +kernel), List.mem_of_getElem? (i := 1134) (by decide +kernel)⟩
def lw_privs_4 : List (MethodName × Nat) := [(⟨"NameBookModel", "yearsGo", "(I)V"⟩, 18), (⟨"NameBookModel", "year", "()V"⟩, 18), (⟨"NameBookModel", "does", "(II)V"⟩, 18), (⟨"NameBookModel", "work", "(II)I"⟩, 18), (⟨"NameBookModel", "isBorneThere", "(I)Z"⟩, 18), (⟨"NameBookModel", "helpsNow", "(I)V"⟩, 18), (⟨"NameBookModel", "isFree", "(I)Z"⟩, 18), (⟨"NameBookModel", "leaves", "(I)V"⟩, 18), (⟨"NameBookModel", "hours", "()I"⟩, 18), (⟨"NameBookModel", "openNames", "()I"⟩, 18), (⟨"NameBookModel", "endedWorth", "()I"⟩, 18), (⟨"NameBookModel", "allLives", "()I"⟩, 18), (⟨"NameBookModel", "overIn", "(III)I"⟩, 18), (⟨"NameBookModel", "isShutInTime", "(II)Z"⟩, 18), (⟨"NameBookModel", "orNone", "(I)I"⟩, 18), (⟨"NameBookModel", "wrongWay", "(I)I"⟩, 18)]
theorem lw_r4 : ∀ q ∈ lw_privs_4, lw_okq q := List.forall_mem_cons.mpr ⟨lw_p48, List.forall_mem_cons.mpr ⟨lw_p49, List.forall_mem_cons.mpr ⟨lw_p50, List.forall_mem_cons.mpr ⟨lw_p51, List.forall_mem_cons.mpr ⟨lw_p52, List.forall_mem_cons.mpr ⟨lw_p53, List.forall_mem_cons.mpr ⟨lw_p54, List.forall_mem_cons.mpr ⟨lw_p55, List.forall_mem_cons.mpr ⟨lw_p56, List.forall_mem_cons.mpr ⟨lw_p57, List.forall_mem_cons.mpr ⟨lw_p58, List.forall_mem_cons.mpr ⟨lw_p59, List.forall_mem_cons.mpr ⟨lw_p60, List.forall_mem_cons.mpr ⟨lw_p61, List.forall_mem_cons.mpr ⟨lw_p62, List.forall_mem_cons.mpr ⟨lw_p63, fun _ h => absurd h List.not_mem_nil⟩⟩⟩⟩⟩⟩⟩⟩⟩⟩⟩⟩⟩⟩⟩⟩
theorem lw_p64 : lw_okq (⟨"NameBookModel", "waiting", "()I"⟩, 18) := ⟨⟨by decide +kernel, by decide +kernel⟩, List.mem_of_getElem? (i := 801) (by decide +kernel), List.mem_of_getElem? (i := 1138) (by decide +kernel), List.mem_of_getElem? (i := 1139) (by decide +kernel)⟩
theorem lw_p65 : lw_okq (⟨"NameBookModel", "mayGet", "(I)Z"⟩, 18) := ⟨⟨by decide +kernel, by decide +kernel⟩, List.mem_of_getElem? (i := 801) (by decide +kernel), List.mem_of_getElem? (i := 1142) (by decide +kernel), List.mem_of_getElem? (i := 1143) (by decide +kernel)⟩
theorem lw_p66 : lw_okq (⟨"NameBookModel", "bestWay", "(I)I"⟩, 18) := ⟨⟨by decide +kernel, by decide +kernel⟩, List.mem_of_getElem? (i := 801) (by decide +kernel), List.mem_of_getElem? (i := 1147) (by decide +kernel), List.mem_of_getElem? (i := 1148) (by decide +kernel)⟩
theorem lw_p67 : lw_okq (⟨"NameBookModel", "hoursBehind", "(I)I"⟩, 18) := ⟨⟨by decide +kernel, by decide +kernel⟩, List.mem_of_getElem? (i := 801) (by decide +kernel), List.mem_of_getElem? (i := 1163) (by decide +kernel), List.mem_of_getElem? (i := 1164) (by decide +kernel)⟩
theorem lw_p68 : lw_okq (⟨"NameBookModel", "token", "()V"⟩, 18) := ⟨⟨by decide +kernel, by decide +kernel⟩, List.mem_of_getElem? (i := 801) (by decide +kernel), List.mem_of_getElem? (i := 1187) (by decide +kernel), List.mem_of_getElem? (i := 1188) (by decide +kernel)⟩
theorem lw_p69 : lw_okq (⟨"NameBookModel", "isByte", "(III)Z"⟩, 18) := ⟨⟨by decide +kernel, by decide +kernel⟩, List.mem_of_getElem? (i := 801) (by decide +kernel), List.mem_of_getElem? (i := 1191) (by decide +kernel), List.mem_of_getElem? (i := 1192) (by decide +kernel)⟩
theorem lw_p70 : lw_okq (⟨"NameBookModel", "item", "()V"⟩, 18) := ⟨⟨by decide +kernel, by decide +kernel⟩, List.mem_of_getElem? (i := 801) (by decide +kernel), List.mem_of_getElem? (i := 1195) (by decide +kernel), List.mem_of_getElem? (i := 1196) (by decide +kernel)⟩
theorem lw_p71 : lw_okq (⟨"NameBookModel", "kindHere", "()I"⟩, 18) := ⟨⟨by decide +kernel, by decide +kernel⟩, List.mem_of_getElem? (i := 801) (by decide +kernel), List.mem_of_getElem? (i := 1199) (by decide +kernel), List.mem_of_getElem? (i := 1200) (by decide +kernel)⟩
theorem lw_p72 : lw_okq (⟨"NameBookModel", "isWord", "(Ljava/lang/String;)Z"⟩, 18) := ⟨⟨by decide +kernel, by decide +kernel⟩, List.mem_of_getElem? (i := 801) (by decide +kernel), List.mem_of_getElem? (i := 1204) (by decide +kernel), List.mem_of_getElem? (i := 1205) (by decide +kernel)⟩
theorem lw_p73 : lw_okq (⟨"NameBookModel", "takes", "(Ljava/lang/String;)Z"⟩, 18) := ⟨⟨by decide +kernel, by decide +kernel⟩, List.mem_of_getElem? (i := 801) (by decide +kernel), List.mem_of_getElem? (i := 1217) (by decide +kernel), List.mem_of_getElem? (i := 1218) (by decide +kernel)⟩
theorem lw_p74 : lw_okq (⟨"NameBookModel", "nameItem", "()V"⟩, 18) := ⟨⟨by decide +kernel, by decide +kernel⟩, List.mem_of_getElem? (i := 801) (by decide +kernel), List.mem_of_getElem? (i := 1221) (by decide +kernel), List.mem_of_getElem? (i := 1222) (by decide +kernel)⟩
theorem lw_p75 : lw_okq (⟨"NameBookModel", "number", "(IIZ)I"⟩, 18) := ⟨⟨by decide +kernel, by decide +kernel⟩, List.mem_of_getElem? (i := 801) (by decide +kernel), List.mem_of_getElem? (i := 1225) (by decide +kernel), List.mem_of_getElem? (i := 1226) (by decide +kernel)⟩
theorem lw_p76 : lw_okq (⟨"NameBookModel", "word", "(Ljava/lang/String;)V"⟩, 18) := ⟨⟨by decide +kernel, by decide +kernel⟩, List.mem_of_getElem? (i := 801) (by decide +kernel), List.mem_of_getElem? (i := 1230) (by decide +kernel), List.mem_of_getElem? (i := 1231) (by decide +kernel)⟩
theorem lw_p77 : lw_okq (⟨"NameBookModel", "taskItem", "(I)V"⟩, 18) := ⟨⟨by decide +kernel, by decide +kernel⟩, List.mem_of_getElem? (i := 801) (by decide +kernel), List.mem_of_getElem? (i := 1234) (by decide +kernel), List.mem_of_getElem? (i := 1235) (by decide +kernel)⟩
theorem lw_p78 : lw_okq (⟨"NameBookModel", "personItem", "()V"⟩, 18) := ⟨⟨by decide +kernel, by decide +kernel⟩, List.mem_of_getElem? (i := 801) (by decide +kernel), List.mem_of_getElem? (i := 1240) (by decide +kernel), List.mem_of_getElem? (i := 1241) (by decide +kernel)⟩
theorem lw_p79 : lw_okq (⟨"NameBookModel", "isSign", "(I)Z"⟩, 18) := ⟨⟨by decide +kernel, by decide +kernel⟩, List.mem_of_getElem? (i := 801) (by decide +kernel), List.mem_of_getElem? (i := 1248) (by decide +kernel), List.mem_of_getElem? (i := 1249) (by decide +kernel)⟩
def lw_privs_5 : List (MethodName × Nat) := [(⟨"NameBookModel", "waiting", "()I"⟩, 18), (⟨"NameBookModel", "mayGet", "(I)Z"⟩, 18), (⟨"NameBookModel", "bestWay", "(I)I"⟩, 18), (⟨"NameBookModel", "hoursBehind", "(I)I"⟩, 18), (⟨"NameBookModel", "token", "()V"⟩, 18), (⟨"NameBookModel", "isByte", "(III)Z"⟩, 18), (⟨"NameBookModel", "item", "()V"⟩, 18), (⟨"NameBookModel", "kindHere", "()I"⟩, 18), (⟨"NameBookModel", "isWord", "(Ljava/lang/String;)Z"⟩, 18), (⟨"NameBookModel", "takes", "(Ljava/lang/String;)Z"⟩, 18), (⟨"NameBookModel", "nameItem", "()V"⟩, 18), (⟨"NameBookModel", "number", "(IIZ)I"⟩, 18), (⟨"NameBookModel", "word", "(Ljava/lang/String;)V"⟩, 18), (⟨"NameBookModel", "taskItem", "(I)V"⟩, 18), (⟨"NameBookModel", "personItem", "()V"⟩, 18), (⟨"NameBookModel", "isSign", "(I)Z"⟩, 18)]
theorem lw_r5 : ∀ q ∈ lw_privs_5, lw_okq q := List.forall_mem_cons.mpr ⟨lw_p64, List.forall_mem_cons.mpr ⟨lw_p65, List.forall_mem_cons.mpr ⟨lw_p66, List.forall_mem_cons.mpr ⟨lw_p67, List.forall_mem_cons.mpr ⟨lw_p68, List.forall_mem_cons.mpr ⟨lw_p69, List.forall_mem_cons.mpr ⟨lw_p70, List.forall_mem_cons.mpr ⟨lw_p71, List.forall_mem_cons.mpr ⟨lw_p72, List.forall_mem_cons.mpr ⟨lw_p73, List.forall_mem_cons.mpr ⟨lw_p74, List.forall_mem_cons.mpr ⟨lw_p75, List.forall_mem_cons.mpr ⟨lw_p76, List.forall_mem_cons.mpr ⟨lw_p77, List.forall_mem_cons.mpr ⟨lw_p78, List.forall_mem_cons.mpr ⟨lw_p79, fun _ h => absurd h List.not_mem_nil⟩⟩⟩⟩⟩⟩⟩⟩⟩⟩⟩⟩⟩⟩⟩⟩
def lw_privs : List (MethodName × Nat) := lw_privs_1 ++ (lw_privs_2 ++ (lw_privs_3 ++ (lw_privs_4 ++ (lw_privs_5))))
def lw_tbl : List Cond := k2_sels lw_privs ++ tables_1
theorem lw_privs_ok : ∀ q ∈ lw_privs, lw_okq q := by
  show ∀ q ∈ lw_privs_1 ++ (lw_privs_2 ++ (lw_privs_3 ++ (lw_privs_4 ++ (lw_privs_5)))), lw_okq q
  exact List.forall_mem_append.mpr ⟨lw_r1, List.forall_mem_append.mpr ⟨lw_r2, List.forall_mem_append.mpr ⟨lw_r3, List.forall_mem_append.mpr ⟨lw_r4, lw_r5⟩⟩⟩⟩
end
section
/-! ===== BEGIN words of one list among another's, by their places ===== -/
theorem goodIn_r {big : List Cond} (ws : List Cond) (ps : List Nat) (hp : ws = ps.filterMap (fun i => big[i]?)) (h : ws.all goodWord = true) : GoodIn big ws := by
  intro w hw
  have h1 := List.all_eq_true.mp h w hw
  rw [hp] at hw
  obtain ⟨i, -, hi⟩ := List.mem_filterMap.mp hw
  have hm : w ∈ big := by first | exact List.mem_of_getElem? hi | exact List.getElem?_mem hi
  exact ⟨hm, good_of_word h1⟩
theorem goodIn_app {big a b : List Cond} (ha : GoodIn big a) (hb : GoodIn big b) : GoodIn big (a ++ b) := fun w h => (List.mem_append.mp h).elim (ha w) (hb w)
theorem goodIn_ca {big a b : List Cond} {c : Cond} (ha : GoodIn big (c :: a)) (hb : GoodIn big b) : GoodIn big (c :: (a ++ b)) := fun w h => (List.mem_cons.mp h).elim (fun e => ha w (List.mem_cons.mpr (Or.inl e))) (fun h => (List.mem_append.mp h).elim (fun h => ha w (List.mem_cons.mpr (Or.inr h))) (hb w))
theorem goodIn_sub {big ws : List Cond} (hm : ∀ w ∈ ws, w ∈ big) (h : ws.all goodWord = true) : GoodIn big ws := fun w hw => ⟨hm w hw, good_of_word (List.all_eq_true.mp h w hw)⟩
/-! ===== END ===== -/

/-! ===== BEGIN printed: names, fields, word lists, decode rows ===== -/
def RX0 : String := "NameBook$Book"
def TX0 : u_T := fun k => match k with
  | 0 => ("NameBook$Book", "year", "I", false)
  | 1 => ("NameBook$Book", "z", "I", false)
  | 2 => ("NameBook$Book", "taskCount", "I", false)
  | 3 => ("NameBook$Book", "personCount", "I", false)
  | 4 => ("NameBook$Book", "worths", "[I", true)
  | 5 => ("NameBook$Book", "gone", "[I", true)
  | 6 => ("NameBook$Book", "kinds", "[I", true)
  | 7 => ("NameBook$Book", "owners", "[I", true)
  | 8 => ("NameBook$Book", "hours", "[I", true)
  | 9 => ("NameBook$Book", "needed", "[I", true)
  | 10 => ("NameBook$Book", "borne", "[I", true)
  | 11 => ("NameBook$Book", "ages", "[I", true)
  | 12 => ("NameBook$Book", "hands", "[I", true)
  | 13 => ("NameBook$Book", "helped", "[I", true)
  | _ => ("NameBook$Book", "spots", "[I", true)
def tyX0 : Nat → FieldType := fun k => match k with
  | 0 => .int
  | 1 => .int
  | 2 => .int
  | 3 => .int
  | 4 => .array .int
  | 5 => .array .int
  | 6 => .array .int
  | 7 => .array .int
  | 8 => .array .int
  | 9 => .array .int
  | 10 => .array .int
  | 11 => .array .int
  | 12 => .array .int
  | 13 => .array .int
  | _ => .array .int
abbrev wsX00 : List Cond := u_ws RX0 TX0 15
theorem nmX0 : ∀ a, a < 15 → ∀ b, b < 15 → a ≠ b → (TX0 a).2.1 ≠ (TX0 b).2.1 := by decide +kernel
theorem tyX0_ok : ∀ k, k < 15 → parseFieldDescriptor (TX0 k).2.2.1 = some (tyX0 k) := by decide +kernel
abbrev cX0_init : ByteArray := prog_2_method_1_code
def yX0_init : MethodName := ⟨RX0, "<init>", "()V"⟩
abbrev cX0_setTo : ByteArray := prog_2_method_2_code
def yX0_setTo : MethodName := ⟨RX0, "setTo", "(LNameBook$Book;)V"⟩
abbrev cX0_draw : ByteArray := prog_2_method_3_code
def yX0_draw : MethodName := ⟨RX0, "draw", "()I"⟩
abbrev cX0_hasTask : ByteArray := prog_2_method_4_code
def yX0_hasTask : MethodName := ⟨RX0, "hasTask", "(I)Z"⟩
abbrev cX0_hasPerson : ByteArray := prog_2_method_5_code
def yX0_hasPerson : MethodName := ⟨RX0, "hasPerson", "(I)Z"⟩
abbrev cX0_addTask : ByteArray := prog_2_method_6_code
def yX0_addTask : MethodName := ⟨RX0, "addTask", "(IIII)I"⟩
abbrev cX0_addPerson : ByteArray := prog_2_method_7_code
def yX0_addPerson : MethodName := ⟨RX0, "addPerson", "(III)I"⟩
abbrev cX0_isEnded : ByteArray := prog_2_method_8_code
def yX0_isEnded : MethodName := ⟨RX0, "isEnded", "(I)Z"⟩
abbrev cX0_endedTasks : ByteArray := prog_2_method_9_code
def yX0_endedTasks : MethodName := ⟨RX0, "endedTasks", "()I"⟩
abbrev cX0_hoursOfAll : ByteArray := prog_2_method_10_code
def yX0_hoursOfAll : MethodName := ⟨RX0, "hoursOfAll", "()I"⟩
abbrev cX0_growthOf : ByteArray := prog_2_method_11_code
def yX0_growthOf : MethodName := ⟨RX0, "growthOf", "(I)I"⟩
abbrev cX0_workOf : ByteArray := prog_2_method_12_code
def yX0_workOf : MethodName := ⟨RX0, "workOf", "(II)I"⟩
abbrev cX0_isWaiting : ByteArray := prog_2_method_13_code
def yX0_isWaiting : MethodName := ⟨RX0, "isWaiting", "(II)Z"⟩
abbrev cX0_openNames : ByteArray := prog_2_method_14_code
def yX0_openNames : MethodName := ⟨RX0, "openNames", "()I"⟩
abbrev cX0_isOpen : ByteArray := prog_2_method_15_code
def yX0_isOpen : MethodName := ⟨RX0, "isOpen", "(I)Z"⟩
abbrev cX0_freeNames : ByteArray := prog_2_method_16_code
def yX0_freeNames : MethodName := ⟨RX0, "freeNames", "()I"⟩
abbrev cX0_bearerOf : ByteArray := prog_2_method_17_code
def yX0_bearerOf : MethodName := ⟨RX0, "bearerOf", "(I)I"⟩
abbrev cX0_mayTake : ByteArray := prog_2_method_18_code
def yX0_mayTake : MethodName := ⟨RX0, "mayTake", "(II)Z"⟩
abbrev cX0_tasksOf : ByteArray := prog_2_method_19_code
def yX0_tasksOf : MethodName := ⟨RX0, "tasksOf", "(I)I"⟩
abbrev cX0_hoursOf : ByteArray := prog_2_method_20_code
def yX0_hoursOf : MethodName := ⟨RX0, "hoursOf", "(I)I"⟩
abbrev cX0_mostWork : ByteArray := prog_2_method_21_code
def yX0_mostWork : MethodName := ⟨RX0, "mostWork", "(III)I"⟩
abbrev cX0_mostWorkOf : ByteArray := prog_2_method_22_code
def yX0_mostWorkOf : MethodName := ⟨RX0, "mostWorkOf", "(II)I"⟩
abbrev cX0_isAtHand : ByteArray := prog_2_method_23_code
def yX0_isAtHand : MethodName := ⟨RX0, "isAtHand", "(I)Z"⟩
abbrev cX0_handOf : ByteArray := prog_2_method_24_code
def yX0_handOf : MethodName := ⟨RX0, "handOf", "(I)I"⟩
abbrev cX0_findHands : ByteArray := prog_2_method_25_code
def yX0_findHands : MethodName := ⟨RX0, "findHands", "([I)V"⟩
abbrev cX0_endedWorth : ByteArray := prog_2_method_26_code
def yX0_endedWorth : MethodName := ⟨RX0, "endedWorth", "()I"⟩
abbrev cX0_worthOf : ByteArray := prog_2_method_27_code
def yX0_worthOf : MethodName := ⟨RX0, "worthOf", "(I)I"⟩
abbrev cX0_goneOfAll : ByteArray := prog_2_method_28_code
def yX0_goneOfAll : MethodName := ⟨RX0, "goneOfAll", "()I"⟩
def RX1 : String := "NameBook$Giving"
def TX1 : u_T := fun k => match k with
  | 0 => ("NameBook$Giving", "trial", "LNameBook$Book;", true)
  | 1 => ("NameBook$Giving", "walk", "LNameBook$Walk;", true)
  | 2 => ("NameBook$Giving", "takers", "[I", true)
  | 3 => ("NameBook$Giving", "got", "[I", true)
  | 4 => ("NameBook$Giving", "bestGot", "[I", true)
  | 5 => ("NameBook$Giving", "gains", "[I", true)
  | 6 => ("NameBook$Giving", "hopes", "[I", true)
  | 7 => ("NameBook$Giving", "takerCount", "I", false)
  | 8 => ("NameBook$Giving", "sure", "I", false)
  | _ => ("NameBook$Giving", "bestWorth", "I", false)
def tyX1 : Nat → FieldType := fun k => match k with
  | 0 => .object "NameBook$Book"
  | 1 => .object "NameBook$Walk"
  | 2 => .array .int
  | 3 => .array .int
  | 4 => .array .int
  | 5 => .array .int
  | 6 => .array .int
  | 7 => .int
  | 8 => .int
  | _ => .int
abbrev wsX10 : List Cond := u_ws RX1 TX1 10
theorem nmX1 : ∀ a, a < 10 → ∀ b, b < 10 → a ≠ b → (TX1 a).2.1 ≠ (TX1 b).2.1 := by decide +kernel
theorem tyX1_ok : ∀ k, k < 10 → parseFieldDescriptor (TX1 k).2.2.1 = some (tyX1 k) := by decide +kernel
abbrev cX1_init : ByteArray := prog_3_method_1_code
def yX1_init : MethodName := ⟨RX1, "<init>", "(LNameBook$Book;LNameBook$Walk;)V"⟩
abbrev cX1_gather : ByteArray := prog_3_method_2_code
def yX1_gather : MethodName := ⟨RX1, "gather", "(LNameBook$Book;)Z"⟩
abbrev cX1_begin : ByteArray := prog_3_method_3_code
def yX1_begin : MethodName := ⟨RX1, "begin", "(LNameBook$Book;I)V"⟩
abbrev cX1_findGains : ByteArray := prog_3_method_4_code
def yX1_findGains : MethodName := ⟨RX1, "findGains", "(LNameBook$Book;I)V"⟩
abbrev cX1_gainOf : ByteArray := prog_3_method_5_code
def yX1_gainOf : MethodName := ⟨RX1, "gainOf", "(LNameBook$Book;III)I"⟩
abbrev cX1_weighFrom : ByteArray := prog_3_method_6_code
def yX1_weighFrom : MethodName := ⟨RX1, "weighFrom", "(LNameBook$Book;IIII)V"⟩
abbrev cX1_weigh : ByteArray := prog_3_method_7_code
def yX1_weigh : MethodName := ⟨RX1, "weigh", "(LNameBook$Book;I)V"⟩
abbrev cX1_carryOut : ByteArray := prog_3_method_8_code
def yX1_carryOut : MethodName := ⟨RX1, "carryOut", "(LNameBook$Book;)I"⟩
def RX2 : String := "NameBook$Kinds"
def TX2 : u_T := fun k => match k with
  | _ => ("", "", "", false)
def tyX2 : Nat → FieldType := fun k => match k with
  | _ => .int
abbrev wsX20 : List Cond := u_ws RX2 TX2 0
theorem nmX2 : ∀ a, a < 0 → ∀ b, b < 0 → a ≠ b → (TX2 a).2.1 ≠ (TX2 b).2.1 := by decide +kernel
theorem tyX2_ok : ∀ k, k < 0 → parseFieldDescriptor (TX2 k).2.2.1 = some (tyX2 k) := by decide +kernel
abbrev cX2_isKind : ByteArray := prog_4_method_2_code
def yX2_isKind : MethodName := ⟨RX2, "isKind", "(I)Z"⟩
abbrev cX2_isUnder : ByteArray := prog_4_method_3_code
def yX2_isUnder : MethodName := ⟨RX2, "isUnder", "(II)Z"⟩
abbrev cX2_workOf : ByteArray := prog_4_method_4_code
def yX2_workOf : MethodName := ⟨RX2, "workOf", "(III)I"⟩
abbrev cX2_growthOf : ByteArray := prog_4_method_5_code
def yX2_growthOf : MethodName := ⟨RX2, "growthOf", "(III)I"⟩
def RX3 : String := "NameBook$Sheet"
def TX3 : u_T := fun k => match k with
  | 0 => ("NameBook$Sheet", "numbers", "[I", true)
  | 1 => ("NameBook$Sheet", "bits", "I", false)
  | _ => ("NameBook$Sheet", "size", "I", false)
def tyX3 : Nat → FieldType := fun k => match k with
  | 0 => .array .int
  | 1 => .int
  | _ => .int
abbrev wsX30 : List Cond := u_ws RX3 TX3 3
theorem nmX3 : ∀ a, a < 3 → ∀ b, b < 3 → a ≠ b → (TX3 a).2.1 ≠ (TX3 b).2.1 := by decide +kernel
theorem tyX3_ok : ∀ k, k < 3 → parseFieldDescriptor (TX3 k).2.2.1 = some (tyX3 k) := by decide +kernel
abbrev cX3_init : ByteArray := prog_5_method_1_code
def yX3_init : MethodName := ⟨RX3, "<init>", "()V"⟩
abbrev cX3_isMissing : ByteArray := prog_5_method_2_code
def yX3_isMissing : MethodName := ⟨RX3, "isMissing", "()Z"⟩
abbrev cX3_become : ByteArray := prog_5_method_3_code
def yX3_become : MethodName := ⟨RX3, "become", "(II)I"⟩
abbrev cX3_hasRange : ByteArray := prog_5_method_4_code
def yX3_hasRange : MethodName := ⟨RX3, "hasRange", "(II)Z"⟩
abbrev cX3_put : ByteArray := prog_5_method_5_code
def yX3_put : MethodName := ⟨RX3, "put", "(II)V"⟩
def RX4 : String := "NameBook$Tape"
def TX4 : u_T := fun k => match k with
  | 0 => ("NameBook$Tape", "bytes", "[I", true)
  | 1 => ("NameBook$Tape", "length", "I", false)
  | 2 => ("NameBook$Tape", "sort", "I", false)
  | 3 => ("NameBook$Tape", "start", "I", false)
  | 4 => ("NameBook$Tape", "end", "I", false)
  | _ => ("NameBook$Tape", "value", "I", false)
def tyX4 : Nat → FieldType := fun k => match k with
  | 0 => .array .int
  | 1 => .int
  | 2 => .int
  | 3 => .int
  | 4 => .int
  | _ => .int
abbrev wsX40 : List Cond := u_ws RX4 TX4 6
theorem nmX4 : ∀ a, a < 6 → ∀ b, b < 6 → a ≠ b → (TX4 a).2.1 ≠ (TX4 b).2.1 := by decide +kernel
theorem tyX4_ok : ∀ k, k < 6 → parseFieldDescriptor (TX4 k).2.2.1 = some (tyX4 k) := by decide +kernel
abbrev cX4_init : ByteArray := prog_6_method_1_code
def yX4_init : MethodName := ⟨RX4, "<init>", "()V"⟩
abbrev cX4_hasRoomFor : ByteArray := prog_6_method_2_code
def yX4_hasRoomFor : MethodName := ⟨RX4, "hasRoomFor", "(I)Z"⟩
abbrev cX4_append : ByteArray := prog_6_method_3_code
def yX4_append : MethodName := ⟨RX4, "append", "(II)I"⟩
abbrev cX4_clear : ByteArray := prog_6_method_4_code
def yX4_clear : MethodName := ⟨RX4, "clear", "()I"⟩
abbrev cX4_readInto : ByteArray := prog_6_method_5_code
def yX4_readInto : MethodName := ⟨RX4, "readInto", "(LNameBook$Book;)I"⟩
abbrev cX4_advance : ByteArray := prog_6_method_6_code
def yX4_advance : MethodName := ⟨RX4, "advance", "()V"⟩
abbrev cX4_readNumber : ByteArray := prog_6_method_7_code
def yX4_readNumber : MethodName := ⟨RX4, "readNumber", "()V"⟩
abbrev cX4_isLetter : ByteArray := prog_6_method_8_code
def yX4_isLetter : MethodName := ⟨RX4, "isLetter", "(I)Z"⟩
abbrev cX4_isDigit : ByteArray := prog_6_method_9_code
def yX4_isDigit : MethodName := ⟨RX4, "isDigit", "(I)Z"⟩
abbrev cX4_isWord : ByteArray := prog_6_method_10_code
def yX4_isWord : MethodName := ⟨RX4, "isWord", "(Ljava/lang/String;)Z"⟩
abbrev cX4_passWord : ByteArray := prog_6_method_11_code
def yX4_passWord : MethodName := ⟨RX4, "passWord", "(Ljava/lang/String;)Z"⟩
abbrev cX4_passNumber : ByteArray := prog_6_method_12_code
def yX4_passNumber : MethodName := ⟨RX4, "passNumber", "(II)I"⟩
abbrev cX4_readItem : ByteArray := prog_6_method_13_code
def yX4_readItem : MethodName := ⟨RX4, "readItem", "(LNameBook$Book;)Z"⟩
abbrev cX4_kindHere : ByteArray := prog_6_method_14_code
def yX4_kindHere : MethodName := ⟨RX4, "kindHere", "()I"⟩
abbrev cX4_readName : ByteArray := prog_6_method_15_code
def yX4_readName : MethodName := ⟨RX4, "readName", "(LNameBook$Book;)Z"⟩
abbrev cX4_readTask : ByteArray := prog_6_method_16_code
def yX4_readTask : MethodName := ⟨RX4, "readTask", "(LNameBook$Book;I)Z"⟩
abbrev cX4_readPerson : ByteArray := prog_6_method_17_code
def yX4_readPerson : MethodName := ⟨RX4, "readPerson", "(LNameBook$Book;)Z"⟩
def RX5 : String := "NameBook$Walk"
def TX5 : u_T := fun k => match k with
  | _ => ("NameBook$Walk", "hand", "[I", true)
def tyX5 : Nat → FieldType := fun k => match k with
  | _ => .array .int
abbrev wsX50 : List Cond := u_ws RX5 TX5 1
theorem nmX5 : ∀ a, a < 1 → ∀ b, b < 1 → a ≠ b → (TX5 a).2.1 ≠ (TX5 b).2.1 := by decide +kernel
theorem tyX5_ok : ∀ k, k < 1 → parseFieldDescriptor (TX5 k).2.2.1 = some (tyX5 k) := by decide +kernel
abbrev cX5_init : ByteArray := prog_7_method_1_code
def yX5_init : MethodName := ⟨RX5, "<init>", "()V"⟩
abbrev cX5_go : ByteArray := prog_7_method_2_code
def yX5_go : MethodName := ⟨RX5, "go", "(LNameBook$Book;I)V"⟩
abbrev cX5_bearersWork : ByteArray := prog_7_method_3_code
def yX5_bearersWork : MethodName := ⟨RX5, "bearersWork", "(LNameBook$Book;)V"⟩
abbrev cX5_helpersWork : ByteArray := prog_7_method_4_code
def yX5_helpersWork : MethodName := ⟨RX5, "helpersWork", "(LNameBook$Book;)V"⟩
abbrev cX5_workOn : ByteArray := prog_7_method_5_code
def yX5_workOn : MethodName := ⟨RX5, "workOn", "(LNameBook$Book;II)V"⟩
abbrev cX5_tasksGrow : ByteArray := prog_7_method_6_code
def yX5_tasksGrow : MethodName := ⟨RX5, "tasksGrow", "(LNameBook$Book;)V"⟩
abbrev cX5_personsAge : ByteArray := prog_7_method_7_code
def yX5_personsAge : MethodName := ⟨RX5, "personsAge", "(LNameBook$Book;)V"⟩
abbrev cX5_leave : ByteArray := prog_7_method_8_code
def yX5_leave : MethodName := ⟨RX5, "leave", "(LNameBook$Book;I)V"⟩
def RX6 : String := "NameBook"
def TX6 : u_T := fun k => match k with
  | 0 => ("NameBook", "book", "LNameBook$Book;", true)
  | 1 => ("NameBook", "kept", "LNameBook$Book;", true)
  | 2 => ("NameBook", "trial", "LNameBook$Book;", true)
  | 3 => ("NameBook", "walk", "LNameBook$Walk;", true)
  | 4 => ("NameBook", "giving", "LNameBook$Giving;", true)
  | 5 => ("NameBook", "tape", "LNameBook$Tape;", true)
  | 6 => ("NameBook", "sheets", "[LNameBook$Sheet;", true)
  | 7 => ("NameBook", "told", "[I", true)
  | _ => ("NameBook", "isKept", "Z", false)
def tyX6 : Nat → FieldType := fun k => match k with
  | 0 => .object "NameBook$Book"
  | 1 => .object "NameBook$Book"
  | 2 => .object "NameBook$Book"
  | 3 => .object "NameBook$Walk"
  | 4 => .object "NameBook$Giving"
  | 5 => .object "NameBook$Tape"
  | 6 => .array (.object "NameBook$Sheet")
  | 7 => .array .int
  | _ => .boolean
abbrev wsX60 : List Cond := u_ws RX6 TX6 9
theorem nmX6 : ∀ a, a < 9 → ∀ b, b < 9 → a ≠ b → (TX6 a).2.1 ≠ (TX6 b).2.1 := by decide +kernel
theorem tyX6_ok : ∀ k, k < 9 → parseFieldDescriptor (TX6 k).2.2.1 = some (tyX6 k) := by decide +kernel
abbrev cX6_init : ByteArray := prog_1_method_1_code
def yX6_init : MethodName := ⟨RX6, "<init>", "()V"⟩
abbrev cX6_worth : ByteArray := prog_1_method_2_code
def yX6_worth : MethodName := ⟨RX6, "worth", "(II)I"⟩
abbrev cX6_task : ByteArray := prog_1_method_3_code
def yX6_task : MethodName := ⟨RX6, "task", "(III)I"⟩
abbrev cX6_taskOf : ByteArray := prog_1_method_4_code
def yX6_taskOf : MethodName := ⟨RX6, "taskOf", "(II)I"⟩
abbrev cX6_turn : ByteArray := prog_1_method_5_code
def yX6_turn : MethodName := ⟨RX6, "turn", "(II)I"⟩
abbrev cX6_needs : ByteArray := prog_1_method_6_code
def yX6_needs : MethodName := ⟨RX6, "needs", "(II)I"⟩
abbrev cX6_strike : ByteArray := prog_1_method_7_code
def yX6_strike : MethodName := ⟨RX6, "strike", "(I)I"⟩
abbrev cX6_nameOf : ByteArray := prog_1_method_8_code
def yX6_nameOf : MethodName := ⟨RX6, "nameOf", "(II)I"⟩
abbrev cX6_rings : ByteArray := prog_1_method_9_code
def yX6_rings : MethodName := ⟨RX6, "rings", "()I"⟩
abbrev cX6_waits : ByteArray := prog_1_method_10_code
def yX6_waits : MethodName := ⟨RX6, "waits", "(I)I"⟩
abbrev cX6_person : ByteArray := prog_1_method_11_code
def yX6_person : MethodName := ⟨RX6, "person", "(I)I"⟩
abbrev cX6_of : ByteArray := prog_1_method_12_code
def yX6_of : MethodName := ⟨RX6, "of", "(II)I"⟩
abbrev cX6_change : ByteArray := prog_1_method_13_code
def yX6_change : MethodName := ⟨RX6, "change", "(III)I"⟩
abbrev cX6_helps : ByteArray := prog_1_method_14_code
def yX6_helps : MethodName := ⟨RX6, "helps", "(II)I"⟩
abbrev cX6_take : ByteArray := prog_1_method_15_code
def yX6_take : MethodName := ⟨RX6, "take", "(II)I"⟩
abbrev cX6_exchange : ByteArray := prog_1_method_16_code
def yX6_exchange : MethodName := ⟨RX6, "exchange", "(II)I"⟩
abbrev cX6_born : ByteArray := prog_1_method_17_code
def yX6_born : MethodName := ⟨RX6, "born", "(I)I"⟩
abbrev cX6_years : ByteArray := prog_1_method_18_code
def yX6_years : MethodName := ⟨RX6, "years", "(I)I"⟩
abbrev cX6_ahead : ByteArray := prog_1_method_19_code
def yX6_ahead : MethodName := ⟨RX6, "ahead", "(II)I"⟩
abbrev cX6_shut : ByteArray := prog_1_method_20_code
def yX6_shut : MethodName := ⟨RX6, "shut", "(I)I"⟩
abbrev cX6_ends : ByteArray := prog_1_method_21_code
def yX6_ends : MethodName := ⟨RX6, "ends", "(I)I"⟩
abbrev cX6_choose : ByteArray := prog_1_method_22_code
def yX6_choose : MethodName := ⟨RX6, "choose", "(I)I"⟩
abbrev cX6_handsFor : ByteArray := prog_1_method_23_code
def yX6_handsFor : MethodName := ⟨RX6, "handsFor", "(I)I"⟩
abbrev cX6_most : ByteArray := prog_1_method_24_code
def yX6_most : MethodName := ⟨RX6, "most", "(I)I"⟩
abbrev cX6_give : ByteArray := prog_1_method_25_code
def yX6_give : MethodName := ⟨RX6, "give", "(I)I"⟩
abbrev cX6_lives : ByteArray := prog_1_method_26_code
def yX6_lives : MethodName := ⟨RX6, "lives", "(II)I"⟩
abbrev cX6_best : ByteArray := prog_1_method_27_code
def yX6_best : MethodName := ⟨RX6, "best", "(I)I"⟩
abbrev cX6_whom : ByteArray := prog_1_method_28_code
def yX6_whom : MethodName := ⟨RX6, "whom", "(II)I"⟩
abbrev cX6_seed : ByteArray := prog_1_method_29_code
def yX6_seed : MethodName := ⟨RX6, "seed", "(I)I"⟩
abbrev cX6_feed : ByteArray := prog_1_method_30_code
def yX6_feed : MethodName := ⟨RX6, "feed", "(II)I"⟩
abbrev cX6_wipe : ByteArray := prog_1_method_31_code
def yX6_wipe : MethodName := ⟨RX6, "wipe", "()I"⟩
abbrev cX6_text : ByteArray := prog_1_method_32_code
def yX6_text : MethodName := ⟨RX6, "text", "()I"⟩
abbrev cX6_hold : ByteArray := prog_1_method_33_code
def yX6_hold : MethodName := ⟨RX6, "hold", "(II)I"⟩
abbrev cX6_as : ByteArray := prog_1_method_34_code
def yX6_as : MethodName := ⟨RX6, "as", "(II)I"⟩
abbrev cX6_sheet : ByteArray := prog_1_method_35_code
def yX6_sheet : MethodName := ⟨RX6, "sheet", "(III)I"⟩
abbrev cX6_write : ByteArray := prog_1_method_36_code
def yX6_write : MethodName := ⟨RX6, "write", "(III)I"⟩
abbrev cX6_copy : ByteArray := prog_1_method_37_code
def yX6_copy : MethodName := ⟨RX6, "copy", "(IIIII)I"⟩
abbrev cX6_load : ByteArray := prog_1_method_38_code
def yX6_load : MethodName := ⟨RX6, "load", "(I)I"⟩
abbrev cX6_judge : ByteArray := prog_1_method_39_code
def yX6_judge : MethodName := ⟨RX6, "judge", "(II)I"⟩
abbrev cX6_image : ByteArray := prog_1_method_40_code
def yX6_image : MethodName := ⟨RX6, "image", "()I"⟩
abbrev cX6_undo : ByteArray := prog_1_method_41_code
def yX6_undo : MethodName := ⟨RX6, "undo", "()I"⟩
abbrev cX6_tear : ByteArray := prog_1_method_42_code
def yX6_tear : MethodName := ⟨RX6, "tear", "()I"⟩
abbrev cX6_count : ByteArray := prog_1_method_43_code
def yX6_count : MethodName := ⟨RX6, "count", "(I)I"⟩
abbrev cX6_status : ByteArray := prog_1_method_44_code
def yX6_status : MethodName := ⟨RX6, "status", "(I)I"⟩
abbrev cX6_found : ByteArray := prog_1_method_45_code
def yX6_found : MethodName := ⟨RX6, "found", "(I)I"⟩
abbrev cX6_isIn : ByteArray := prog_1_method_46_code
def yX6_isIn : MethodName := ⟨RX6, "isIn", "(III)Z"⟩
abbrev cX6_isName : ByteArray := prog_1_method_47_code
def yX6_isName : MethodName := ⟨RX6, "isName", "(I)Z"⟩
abbrev cX6_isSheet : ByteArray := prog_1_method_48_code
def yX6_isSheet : MethodName := ⟨RX6, "isSheet", "(I)Z"⟩
abbrev cX6_isTooLate : ByteArray := prog_1_method_49_code
def yX6_isTooLate : MethodName := ⟨RX6, "isTooLate", "(I)Z"⟩
abbrev cX6_lookAhead : ByteArray := prog_1_method_50_code
def yX6_lookAhead : MethodName := ⟨RX6, "lookAhead", "(I)V"⟩
abbrev cX6_isShutInTime : ByteArray := prog_1_method_51_code
def yX6_isShutInTime : MethodName := ⟨RX6, "isShutInTime", "(III)Z"⟩
abbrev cX6_whyNoGiving : ByteArray := prog_1_method_52_code
def yX6_whyNoGiving : MethodName := ⟨RX6, "whyNoGiving", "(I)I"⟩
def RX7 : String := "NameBookModel"
def TX7 : u_T := fun k => match k with
  | 0 => ("NameBookModel", "m", "[I", true)
  | 1 => ("NameBookModel", "kept", "[I", true)
  | 2 => ("NameBookModel", "was", "[I", true)
  | 3 => ("NameBookModel", "other", "[I", true)
  | 4 => ("NameBookModel", "isKept", "Z", false)
  | 5 => ("NameBookModel", "found", "[I", true)
  | 6 => ("NameBookModel", "got", "[I", true)
  | 7 => ("NameBookModel", "best", "[I", true)
  | 8 => ("NameBookModel", "tape", "[I", true)
  | 9 => ("NameBookModel", "taped", "I", false)
  | 10 => ("NameBookModel", "sort", "I", false)
  | 11 => ("NameBookModel", "from", "I", false)
  | 12 => ("NameBookModel", "to", "I", false)
  | 13 => ("NameBookModel", "value", "I", false)
  | 14 => ("NameBookModel", "bad", "Z", false)
  | 15 => ("NameBookModel", "bits", "[I", true)
  | 16 => ("NameBookModel", "size", "[I", true)
  | _ => ("NameBookModel", "number", "[I", true)
def tyX7 : Nat → FieldType := fun k => match k with
  | 0 => .array .int
  | 1 => .array .int
  | 2 => .array .int
  | 3 => .array .int
  | 4 => .boolean
  | 5 => .array .int
  | 6 => .array .int
  | 7 => .array .int
  | 8 => .array .int
  | 9 => .int
  | 10 => .int
  | 11 => .int
  | 12 => .int
  | 13 => .int
  | 14 => .boolean
  | 15 => .array .int
  | 16 => .array .int
  | _ => .array .int
abbrev wsX70 : List Cond := u_ws RX7 TX7 18
theorem nmX7 : ∀ a, a < 18 → ∀ b, b < 18 → a ≠ b → (TX7 a).2.1 ≠ (TX7 b).2.1 := by decide +kernel
theorem tyX7_ok : ∀ k, k < 18 → parseFieldDescriptor (TX7 k).2.2.1 = some (tyX7 k) := by decide +kernel
abbrev cX7_init : ByteArray := prog_9_method_1_code
def yX7_init : MethodName := ⟨RX7, "<init>", "()V"⟩
abbrev cX7_finds : ByteArray := prog_9_method_2_code
def yX7_finds : MethodName := ⟨RX7, "finds", "(I)I"⟩
abbrev cX7_orNone : ByteArray := prog_9_method_3_code
def yX7_orNone : MethodName := ⟨RX7, "orNone", "(I)I"⟩
abbrev cX7_in : ByteArray := prog_9_method_4_code
def yX7_in : MethodName := ⟨RX7, "in", "(JJJ)Z"⟩
abbrev cX7_held : ByteArray := prog_9_method_5_code
def yX7_held : MethodName := ⟨RX7, "held", "(I)I"⟩
abbrev cX7_row : ByteArray := prog_9_method_6_code
def yX7_row : MethodName := ⟨RX7, "row", "([I[I)V"⟩
abbrev cX7_becomes : ByteArray := prog_9_method_7_code
def yX7_becomes : MethodName := ⟨RX7, "becomes", "(II)I"⟩
abbrev cX7_isName : ByteArray := prog_9_method_8_code
def yX7_isName : MethodName := ⟨RX7, "isName", "(I)Z"⟩
abbrev cX7_isTask : ByteArray := prog_9_method_9_code
def yX7_isTask : MethodName := ⟨RX7, "isTask", "(I)Z"⟩
abbrev cX7_isPerson : ByteArray := prog_9_method_10_code
def yX7_isPerson : MethodName := ⟨RX7, "isPerson", "(I)Z"⟩
abbrev cX7_isKind : ByteArray := prog_9_method_11_code
def yX7_isKind : MethodName := ⟨RX7, "isKind", "(I)Z"⟩
abbrev cX7_areHands : ByteArray := prog_9_method_12_code
def yX7_areHands : MethodName := ⟨RX7, "areHands", "(I)Z"⟩
abbrev cX7_task0 : ByteArray := prog_9_method_13_code
def yX7_task0 : MethodName := ⟨RX7, "task0", "(II)I"⟩
abbrev cX7_person0 : ByteArray := prog_9_method_14_code
def yX7_person0 : MethodName := ⟨RX7, "person0", "(II)I"⟩
abbrev cX7_isEnded : ByteArray := prog_9_method_15_code
def yX7_isEnded : MethodName := ⟨RX7, "isEnded", "(I)Z"⟩
abbrev cX7_bearer : ByteArray := prog_9_method_16_code
def yX7_bearer : MethodName := ⟨RX7, "bearer", "(I)I"⟩
abbrev cX7_worth : ByteArray := prog_9_method_17_code
def yX7_worth : MethodName := ⟨RX7, "worth", "(II)I"⟩
abbrev cX7_comes : ByteArray := prog_9_method_18_code
def yX7_comes : MethodName := ⟨RX7, "comes", "(IIII)V"⟩
abbrev cX7_task : ByteArray := prog_9_method_19_code
def yX7_task : MethodName := ⟨RX7, "task", "(III)I"⟩
abbrev cX7_grows : ByteArray := prog_9_method_20_code
def yX7_grows : MethodName := ⟨RX7, "grows", "(I)I"⟩
abbrev cX7_waitsFor : ByteArray := prog_9_method_21_code
def yX7_waitsFor : MethodName := ⟨RX7, "waitsFor", "(I)I"⟩
abbrev cX7_comesTo : ByteArray := prog_9_method_22_code
def yX7_comesTo : MethodName := ⟨RX7, "comesTo", "(II)Z"⟩
abbrev cX7_taskOf : ByteArray := prog_9_method_23_code
def yX7_taskOf : MethodName := ⟨RX7, "taskOf", "(II)I"⟩
abbrev cX7_turn : ByteArray := prog_9_method_24_code
def yX7_turn : MethodName := ⟨RX7, "turn", "(II)I"⟩
abbrev cX7_needs : ByteArray := prog_9_method_25_code
def yX7_needs : MethodName := ⟨RX7, "needs", "(II)I"⟩
abbrev cX7_strike : ByteArray := prog_9_method_26_code
def yX7_strike : MethodName := ⟨RX7, "strike", "(I)I"⟩
abbrev cX7_isOpen : ByteArray := prog_9_method_27_code
def yX7_isOpen : MethodName := ⟨RX7, "isOpen", "(I)Z"⟩
abbrev cX7_atHand : ByteArray := prog_9_method_28_code
def yX7_atHand : MethodName := ⟨RX7, "atHand", "(I)I"⟩
abbrev cX7_sumOf : ByteArray := prog_9_method_29_code
def yX7_sumOf : MethodName := ⟨RX7, "sumOf", "(IZ)I"⟩
abbrev cX7_nameOf : ByteArray := prog_9_method_30_code
def yX7_nameOf : MethodName := ⟨RX7, "nameOf", "(II)I"⟩
abbrev cX7_rings : ByteArray := prog_9_method_31_code
def yX7_rings : MethodName := ⟨RX7, "rings", "()I"⟩
abbrev cX7_waits : ByteArray := prog_9_method_32_code
def yX7_waits : MethodName := ⟨RX7, "waits", "(I)I"⟩
abbrev cX7_isBorn : ByteArray := prog_9_method_33_code
def yX7_isBorn : MethodName := ⟨RX7, "isBorn", "(III)V"⟩
abbrev cX7_person : ByteArray := prog_9_method_34_code
def yX7_person : MethodName := ⟨RX7, "person", "(I)I"⟩
abbrev cX7_of : ByteArray := prog_9_method_35_code
def yX7_of : MethodName := ⟨RX7, "of", "(II)I"⟩
abbrev cX7_change : ByteArray := prog_9_method_36_code
def yX7_change : MethodName := ⟨RX7, "change", "(III)I"⟩
abbrev cX7_helps : ByteArray := prog_9_method_37_code
def yX7_helps : MethodName := ⟨RX7, "helps", "(II)I"⟩
abbrev cX7_wrongTake : ByteArray := prog_9_method_38_code
def yX7_wrongTake : MethodName := ⟨RX7, "wrongTake", "(II)I"⟩
abbrev cX7_take : ByteArray := prog_9_method_39_code
def yX7_take : MethodName := ⟨RX7, "take", "(II)I"⟩
abbrev cX7_exchange : ByteArray := prog_9_method_40_code
def yX7_exchange : MethodName := ⟨RX7, "exchange", "(II)I"⟩
abbrev cX7_draw : ByteArray := prog_9_method_41_code
def yX7_draw : MethodName := ⟨RX7, "draw", "()I"⟩
abbrev cX7_born : ByteArray := prog_9_method_42_code
def yX7_born : MethodName := ⟨RX7, "born", "(I)I"⟩
abbrev cX7_isBorneThere : ByteArray := prog_9_method_43_code
def yX7_isBorneThere : MethodName := ⟨RX7, "isBorneThere", "(I)Z"⟩
abbrev cX7_work : ByteArray := prog_9_method_44_code
def yX7_work : MethodName := ⟨RX7, "work", "(II)I"⟩
abbrev cX7_does : ByteArray := prog_9_method_45_code
def yX7_does : MethodName := ⟨RX7, "does", "(II)V"⟩
abbrev cX7_isFree : ByteArray := prog_9_method_46_code
def yX7_isFree : MethodName := ⟨RX7, "isFree", "(I)Z"⟩
abbrev cX7_helpsNow : ByteArray := prog_9_method_47_code
def yX7_helpsNow : MethodName := ⟨RX7, "helpsNow", "(I)V"⟩
abbrev cX7_leaves : ByteArray := prog_9_method_48_code
def yX7_leaves : MethodName := ⟨RX7, "leaves", "(I)V"⟩
abbrev cX7_year : ByteArray := prog_9_method_49_code
def yX7_year : MethodName := ⟨RX7, "year", "()V"⟩
abbrev cX7_unended : ByteArray := prog_9_method_50_code
def yX7_unended : MethodName := ⟨RX7, "unended", "()I"⟩
abbrev cX7_ended : ByteArray := prog_9_method_51_code
def yX7_ended : MethodName := ⟨RX7, "ended", "()I"⟩
abbrev cX7_yearsGo : ByteArray := prog_9_method_52_code
def yX7_yearsGo : MethodName := ⟨RX7, "yearsGo", "(I)V"⟩
abbrev cX7_isFarOn : ByteArray := prog_9_method_53_code
def yX7_isFarOn : MethodName := ⟨RX7, "isFarOn", "(I)Z"⟩
abbrev cX7_years : ByteArray := prog_9_method_54_code
def yX7_years : MethodName := ⟨RX7, "years", "(I)I"⟩
abbrev cX7_hours : ByteArray := prog_9_method_55_code
def yX7_hours : MethodName := ⟨RX7, "hours", "()I"⟩
abbrev cX7_endedWorth : ByteArray := prog_9_method_56_code
def yX7_endedWorth : MethodName := ⟨RX7, "endedWorth", "()I"⟩
abbrev cX7_openNames : ByteArray := prog_9_method_57_code
def yX7_openNames : MethodName := ⟨RX7, "openNames", "()I"⟩
abbrev cX7_allLives : ByteArray := prog_9_method_58_code
def yX7_allLives : MethodName := ⟨RX7, "allLives", "()I"⟩
abbrev cX7_ahead : ByteArray := prog_9_method_59_code
def yX7_ahead : MethodName := ⟨RX7, "ahead", "(II)I"⟩
abbrev cX7_overIn : ByteArray := prog_9_method_60_code
def yX7_overIn : MethodName := ⟨RX7, "overIn", "(III)I"⟩
abbrev cX7_shut : ByteArray := prog_9_method_61_code
def yX7_shut : MethodName := ⟨RX7, "shut", "(I)I"⟩
abbrev cX7_ends : ByteArray := prog_9_method_62_code
def yX7_ends : MethodName := ⟨RX7, "ends", "(I)I"⟩
abbrev cX7_isShutInTime : ByteArray := prog_9_method_63_code
def yX7_isShutInTime : MethodName := ⟨RX7, "isShutInTime", "(II)Z"⟩
abbrev cX7_choose : ByteArray := prog_9_method_64_code
def yX7_choose : MethodName := ⟨RX7, "choose", "(I)I"⟩
abbrev cX7_handsFor : ByteArray := prog_9_method_65_code
def yX7_handsFor : MethodName := ⟨RX7, "handsFor", "(I)I"⟩
abbrev cX7_mayGet : ByteArray := prog_9_method_66_code
def yX7_mayGet : MethodName := ⟨RX7, "mayGet", "(I)Z"⟩
abbrev cX7_waiting : ByteArray := prog_9_method_67_code
def yX7_waiting : MethodName := ⟨RX7, "waiting", "()I"⟩
abbrev cX7_bestWay : ByteArray := prog_9_method_68_code
def yX7_bestWay : MethodName := ⟨RX7, "bestWay", "(I)I"⟩
abbrev cX7_wrongWay : ByteArray := prog_9_method_69_code
def yX7_wrongWay : MethodName := ⟨RX7, "wrongWay", "(I)I"⟩
abbrev cX7_most : ByteArray := prog_9_method_70_code
def yX7_most : MethodName := ⟨RX7, "most", "(I)I"⟩
abbrev cX7_give : ByteArray := prog_9_method_71_code
def yX7_give : MethodName := ⟨RX7, "give", "(I)I"⟩
abbrev cX7_lives : ByteArray := prog_9_method_72_code
def yX7_lives : MethodName := ⟨RX7, "lives", "(II)I"⟩
abbrev cX7_hoursBehind : ByteArray := prog_9_method_73_code
def yX7_hoursBehind : MethodName := ⟨RX7, "hoursBehind", "(I)I"⟩
abbrev cX7_best : ByteArray := prog_9_method_74_code
def yX7_best : MethodName := ⟨RX7, "best", "(I)I"⟩
abbrev cX7_whom : ByteArray := prog_9_method_75_code
def yX7_whom : MethodName := ⟨RX7, "whom", "(II)I"⟩
abbrev cX7_seed : ByteArray := prog_9_method_76_code
def yX7_seed : MethodName := ⟨RX7, "seed", "(I)I"⟩
abbrev cX7_feed : ByteArray := prog_9_method_77_code
def yX7_feed : MethodName := ⟨RX7, "feed", "(II)I"⟩
abbrev cX7_wipe : ByteArray := prog_9_method_78_code
def yX7_wipe : MethodName := ⟨RX7, "wipe", "()I"⟩
abbrev cX7_isByte : ByteArray := prog_9_method_79_code
def yX7_isByte : MethodName := ⟨RX7, "isByte", "(III)Z"⟩
abbrev cX7_token : ByteArray := prog_9_method_80_code
def yX7_token : MethodName := ⟨RX7, "token", "()V"⟩
abbrev cX7_isWord : ByteArray := prog_9_method_81_code
def yX7_isWord : MethodName := ⟨RX7, "isWord", "(Ljava/lang/String;)Z"⟩
abbrev cX7_takes : ByteArray := prog_9_method_82_code
def yX7_takes : MethodName := ⟨RX7, "takes", "(Ljava/lang/String;)Z"⟩
abbrev cX7_isSign : ByteArray := prog_9_method_83_code
def yX7_isSign : MethodName := ⟨RX7, "isSign", "(I)Z"⟩
abbrev cX7_number : ByteArray := prog_9_method_84_code
def yX7_number : MethodName := ⟨RX7, "number", "(IIZ)I"⟩
abbrev cX7_word : ByteArray := prog_9_method_85_code
def yX7_word : MethodName := ⟨RX7, "word", "(Ljava/lang/String;)V"⟩
abbrev cX7_kindHere : ByteArray := prog_9_method_86_code
def yX7_kindHere : MethodName := ⟨RX7, "kindHere", "()I"⟩
abbrev cX7_nameItem : ByteArray := prog_9_method_87_code
def yX7_nameItem : MethodName := ⟨RX7, "nameItem", "()V"⟩
abbrev cX7_taskItem : ByteArray := prog_9_method_88_code
def yX7_taskItem : MethodName := ⟨RX7, "taskItem", "(I)V"⟩
abbrev cX7_personItem : ByteArray := prog_9_method_89_code
def yX7_personItem : MethodName := ⟨RX7, "personItem", "()V"⟩
abbrev cX7_item : ByteArray := prog_9_method_90_code
def yX7_item : MethodName := ⟨RX7, "item", "()V"⟩
abbrev cX7_text : ByteArray := prog_9_method_91_code
def yX7_text : MethodName := ⟨RX7, "text", "()I"⟩
abbrev cX7_hold : ByteArray := prog_9_method_92_code
def yX7_hold : MethodName := ⟨RX7, "hold", "(II)I"⟩
abbrev cX7_above : ByteArray := prog_9_method_93_code
def yX7_above : MethodName := ⟨RX7, "above", "(I)I"⟩
abbrev cX7_as : ByteArray := prog_9_method_94_code
def yX7_as : MethodName := ⟨RX7, "as", "(II)I"⟩
abbrev cX7_isSheet : ByteArray := prog_9_method_95_code
def yX7_isSheet : MethodName := ⟨RX7, "isSheet", "(I)Z"⟩
abbrev cX7_sheet : ByteArray := prog_9_method_96_code
def yX7_sheet : MethodName := ⟨RX7, "sheet", "(III)I"⟩
abbrev cX7_write : ByteArray := prog_9_method_97_code
def yX7_write : MethodName := ⟨RX7, "write", "(III)I"⟩
abbrev cX7_copy : ByteArray := prog_9_method_98_code
def yX7_copy : MethodName := ⟨RX7, "copy", "(IIIII)I"⟩
abbrev cX7_load : ByteArray := prog_9_method_99_code
def yX7_load : MethodName := ⟨RX7, "load", "(I)I"⟩
abbrev cX7_judge : ByteArray := prog_9_method_100_code
def yX7_judge : MethodName := ⟨RX7, "judge", "(II)I"⟩
abbrev cX7_image : ByteArray := prog_9_method_101_code
def yX7_image : MethodName := ⟨RX7, "image", "()I"⟩
abbrev cX7_undo : ByteArray := prog_9_method_102_code
def yX7_undo : MethodName := ⟨RX7, "undo", "()I"⟩
abbrev cX7_tear : ByteArray := prog_9_method_103_code
def yX7_tear : MethodName := ⟨RX7, "tear", "()I"⟩
abbrev cX7_count : ByteArray := prog_9_method_104_code
def yX7_count : MethodName := ⟨RX7, "count", "(I)I"⟩
abbrev cX7_status : ByteArray := prog_9_method_105_code
def yX7_status : MethodName := ⟨RX7, "status", "(I)I"⟩
def RJx145de : String := "java/io/Serializable"
def TJx145de : u_T := fun k => match k with
  | _ => ("", "", "", false)
def tyJx145de : Nat → FieldType := fun k => match k with
  | _ => .int
abbrev wsJx145de0 : List Cond := u_ws RJx145de TJx145de 0
theorem nmJx145de : ∀ a, a < 0 → ∀ b, b < 0 → a ≠ b → (TJx145de a).2.1 ≠ (TJx145de b).2.1 := by decide +kernel
theorem tyJx145de_ok : ∀ k, k < 0 → parseFieldDescriptor (TJx145de k).2.2.1 = some (tyJx145de k) := by decide +kernel
def RJx9f9b0 : String := "java/lang/CharSequence"
def TJx9f9b0 : u_T := fun k => match k with
  | _ => ("", "", "", false)
def tyJx9f9b0 : Nat → FieldType := fun k => match k with
  | _ => .int
abbrev wsJx9f9b00 : List Cond := u_ws RJx9f9b0 TJx9f9b0 0
theorem nmJx9f9b0 : ∀ a, a < 0 → ∀ b, b < 0 → a ≠ b → (TJx9f9b0 a).2.1 ≠ (TJx9f9b0 b).2.1 := by decide +kernel
theorem tyJx9f9b0_ok : ∀ k, k < 0 → parseFieldDescriptor (TJx9f9b0 k).2.2.1 = some (tyJx9f9b0 k) := by decide +kernel
def RJxb160c : String := "java/lang/Comparable"
def TJxb160c : u_T := fun k => match k with
  | _ => ("", "", "", false)
def tyJxb160c : Nat → FieldType := fun k => match k with
  | _ => .int
abbrev wsJxb160c0 : List Cond := u_ws RJxb160c TJxb160c 0
theorem nmJxb160c : ∀ a, a < 0 → ∀ b, b < 0 → a ≠ b → (TJxb160c a).2.1 ≠ (TJxb160c b).2.1 := by decide +kernel
theorem tyJxb160c_ok : ∀ k, k < 0 → parseFieldDescriptor (TJxb160c k).2.2.1 = some (tyJxb160c k) := by decide +kernel
def RJ9 : String := "java/lang/Math"
def TJ9 : u_T := fun k => match k with
  | _ => ("", "", "", false)
def tyJ9 : Nat → FieldType := fun k => match k with
  | _ => .int
abbrev wsJ90 : List Cond := u_ws RJ9 TJ9 0
theorem nmJ9 : ∀ a, a < 0 → ∀ b, b < 0 → a ≠ b → (TJ9 a).2.1 ≠ (TJ9 b).2.1 := by decide +kernel
theorem tyJ9_ok : ∀ k, k < 0 → parseFieldDescriptor (TJ9 k).2.2.1 = some (tyJ9 k) := by decide +kernel
abbrev cJ9_max_7cf53 : ByteArray := prog_10_method_65_code
def yJ9_max_7cf53 : MethodName := ⟨RJ9, "max", "(II)I"⟩
abbrev cJ9_min_7cf53 : ByteArray := prog_10_method_69_code
def yJ9_min_7cf53 : MethodName := ⟨RJ9, "min", "(II)I"⟩
def RJ0 : String := "java/lang/String"
def TJ0 : u_T := fun k => match k with
  | _ => ("", "", "", false)
def tyJ0 : Nat → FieldType := fun k => match k with
  | _ => .int
abbrev wsJ00 : List Cond := u_ws RJ0 TJ0 0
theorem nmJ0 : ∀ a, a < 0 → ∀ b, b < 0 → a ≠ b → (TJ0 a).2.1 ≠ (TJ0 b).2.1 := by decide +kernel
theorem tyJ0_ok : ∀ k, k < 0 → parseFieldDescriptor (TJ0 k).2.2.1 = some (tyJ0 k) := by decide +kernel
abbrev cJ0_length_8abf5 : ByteArray := prog_11_method_54_code
def yJ0_length_8abf5 : MethodName := ⟨RJ0, "length", "()I"⟩
abbrev cJ0_charAt_5068e : ByteArray := prog_11_method_56_code
def yJ0_charAt_5068e : MethodName := ⟨RJ0, "charAt", "(I)C"⟩
abbrev cJ0_coder_7d493 : ByteArray := prog_11_method_152_code
def yJ0_coder_7d493 : MethodName := ⟨RJ0, "coder", "()B"⟩
abbrev cJ0_isLatin1_aae02 : ByteArray := prog_11_method_154_code
def yJ0_isLatin1_aae02 : MethodName := ⟨RJ0, "isLatin1", "()Z"⟩
abbrev cJ0_checkIndex_df160 : ByteArray := prog_11_method_155_code
def yJ0_checkIndex_df160 : MethodName := ⟨RJ0, "checkIndex", "(II)V"⟩
def RJ1 : String := "java/lang/StringLatin1"
def TJ1 : u_T := fun k => match k with
  | _ => ("", "", "", false)
def tyJ1 : Nat → FieldType := fun k => match k with
  | _ => .int
abbrev wsJ10 : List Cond := u_ws RJ1 TJ1 0
theorem nmJ1 : ∀ a, a < 0 → ∀ b, b < 0 → a ≠ b → (TJ1 a).2.1 ≠ (TJ1 b).2.1 := by decide +kernel
theorem tyJ1_ok : ∀ k, k < 0 → parseFieldDescriptor (TJ1 k).2.2.1 = some (tyJ1 k) := by decide +kernel
abbrev cJ1_charAt_3b067 : ByteArray := prog_12_method_2_code
def yJ1_charAt_3b067 : MethodName := ⟨RJ1, "charAt", "([BI)C"⟩
def RJ2 : String := "java/lang/StringUTF16"
def TJ2 : u_T := fun k => match k with
  | _ => ("", "", "", false)
def tyJ2 : Nat → FieldType := fun k => match k with
  | _ => .int
abbrev wsJ20 : List Cond := u_ws RJ2 TJ2 0
theorem nmJ2 : ∀ a, a < 0 → ∀ b, b < 0 → a ≠ b → (TJ2 a).2.1 ≠ (TJ2 b).2.1 := by decide +kernel
theorem tyJ2_ok : ∀ k, k < 0 → parseFieldDescriptor (TJ2 k).2.2.1 = some (tyJ2 k) := by decide +kernel
abbrev cJ2_getChar_3b067 : ByteArray := prog_13_method_5_code
def yJ2_getChar_3b067 : MethodName := ⟨RJ2, "getChar", "([BI)C"⟩
abbrev cJ2_length_9d52b : ByteArray := prog_13_method_6_code
def yJ2_length_9d52b : MethodName := ⟨RJ2, "length", "([B)I"⟩
abbrev cJ2_charAt_3b067 : ByteArray := prog_13_method_83_code
def yJ2_charAt_3b067 : MethodName := ⟨RJ2, "charAt", "([BI)C"⟩
abbrev cJ2_checkIndex_2214a : ByteArray := prog_13_method_91_code
def yJ2_checkIndex_2214a : MethodName := ⟨RJ2, "checkIndex", "(I[B)V"⟩
def RJ10 : String := "java/lang/System"
def TJ10 : u_T := fun k => match k with
  | _ => ("", "", "", false)
def tyJ10 : Nat → FieldType := fun k => match k with
  | _ => .int
abbrev wsJ100 : List Cond := u_ws RJ10 TJ10 0
theorem nmJ10 : ∀ a, a < 0 → ∀ b, b < 0 → a ≠ b → (TJ10 a).2.1 ≠ (TJ10 b).2.1 := by decide +kernel
theorem tyJ10_ok : ∀ k, k < 0 → parseFieldDescriptor (TJ10 k).2.2.1 = some (tyJ10 k) := by decide +kernel
def RJxfd54e : String := "java/lang/constant/Constable"
def TJxfd54e : u_T := fun k => match k with
  | _ => ("", "", "", false)
def tyJxfd54e : Nat → FieldType := fun k => match k with
  | _ => .int
abbrev wsJxfd54e0 : List Cond := u_ws RJxfd54e TJxfd54e 0
theorem nmJxfd54e : ∀ a, a < 0 → ∀ b, b < 0 → a ≠ b → (TJxfd54e a).2.1 ≠ (TJxfd54e b).2.1 := by decide +kernel
theorem tyJxfd54e_ok : ∀ k, k < 0 → parseFieldDescriptor (TJxfd54e k).2.2.1 = some (tyJxfd54e k) := by decide +kernel
def RJx3cf43 : String := "java/lang/constant/ConstantDesc"
def TJx3cf43 : u_T := fun k => match k with
  | _ => ("", "", "", false)
def tyJx3cf43 : Nat → FieldType := fun k => match k with
  | _ => .int
abbrev wsJx3cf430 : List Cond := u_ws RJx3cf43 TJx3cf43 0
theorem nmJx3cf43 : ∀ a, a < 0 → ∀ b, b < 0 → a ≠ b → (TJx3cf43 a).2.1 ≠ (TJx3cf43 b).2.1 := by decide +kernel
theorem tyJx3cf43_ok : ∀ k, k < 0 → parseFieldDescriptor (TJx3cf43 k).2.2.1 = some (tyJx3cf43 k) := by decide +kernel
def RJ7 : String := "java/util/Arrays"
def TJ7 : u_T := fun k => match k with
  | _ => ("", "", "", false)
def tyJ7 : Nat → FieldType := fun k => match k with
  | _ => .int
abbrev wsJ70 : List Cond := u_ws RJ7 TJ7 0
theorem nmJ7 : ∀ a, a < 0 → ∀ b, b < 0 → a ≠ b → (TJ7 a).2.1 ≠ (TJ7 b).2.1 := by decide +kernel
theorem tyJ7_ok : ∀ k, k < 0 → parseFieldDescriptor (TJ7 k).2.2.1 = some (tyJ7 k) := by decide +kernel
abbrev cJ7_fill_53178 : ByteArray := prog_15_method_103_code
def yJ7_fill_53178 : MethodName := ⟨RJ7, "fill", "([II)V"⟩
def RJ3 : String := "jdk/internal/util/Preconditions"
def TJ3 : u_T := fun k => match k with
  | _ => ("", "", "", false)
def tyJ3 : Nat → FieldType := fun k => match k with
  | _ => .int
abbrev wsJ30 : List Cond := u_ws RJ3 TJ3 0
theorem nmJ3 : ∀ a, a < 0 → ∀ b, b < 0 → a ≠ b → (TJ3 a).2.1 ≠ (TJ3 b).2.1 := by decide +kernel
theorem tyJ3_ok : ∀ k, k < 0 → parseFieldDescriptor (TJ3 k).2.2.1 = some (tyJ3 k) := by decide +kernel
abbrev cJ3_checkIndex_8e157 : ByteArray := prog_16_method_11_code
def yJ3_checkIndex_8e157 : MethodName := ⟨RJ3, "checkIndex", "(IILjava/util/function/BiFunction;)I"⟩
def RL : String := "NameBookLaw"
abbrev cL_law : ByteArray := code
def yL_law : MethodName := ⟨RL, "law", "([I)Z"⟩
def wsL_law_r1 : List Cond := [Cond.classLink RL 7 RX6, Cond.instantiable RX6 9, Cond.initialized RX6, Cond.classLink RL 10 RX7, Cond.instantiable RX7 18, Cond.initialized RX7, Cond.methodLink RL 9 yX6_init, Cond.instanceMethod yX6_init, Cond.code yX6_init cX6_init 2 none, Cond.methodLink RX6 3 objectInit, Cond.instanceMethod objectInit, Cond.code objectInit ⟨#[0xb1]⟩ 1 none, Cond.classLink RX6 9 RX0, Cond.instantiable RX0 15, Cond.initialized RX0, Cond.fieldLink RX6 12 "NameBook" "book" "LNameBook$Book;", Cond.fieldLink RX6 16 "NameBook" "kept" "LNameBook$Book;", Cond.fieldLink RX6 19 "NameBook" "trial" "LNameBook$Book;", Cond.classLink RX6 22 RX5, Cond.instantiable RX5 1, Cond.initialized RX5, Cond.fieldLink RX6 25 "NameBook" "walk" "LNameBook$Walk;", Cond.classLink RX6 29 RX1, Cond.instantiable RX1 10]
def wsL_law_r2 : List Cond := [Cond.initialized RX1, Cond.fieldLink RX6 34 "NameBook" "giving" "LNameBook$Giving;", Cond.classLink RX6 38 RX4, Cond.instantiable RX4 6, Cond.initialized RX4, Cond.fieldLink RX6 41 "NameBook" "tape" "LNameBook$Tape;", Cond.classLink RX6 45 RX3, Cond.fieldLink RX6 47 "NameBook" "sheets" "[LNameBook$Sheet;", Cond.arrayClass .int, Cond.fieldLink RX6 51 "NameBook" "told" "[I", Cond.instantiable RX3 3, Cond.initialized RX3, Cond.methodLink RX6 11 yX0_init, Cond.instanceMethod yX0_init, Cond.code yX0_init cX0_init 1 none, Cond.methodLink RX0 3 objectInit, Cond.fieldLink RX0 9 "NameBook$Book" "z" "I", Cond.fieldLink RX0 15 "NameBook$Book" "worths" "[I", Cond.fieldLink RX0 19 "NameBook$Book" "gone" "[I", Cond.fieldLink RX0 22 "NameBook$Book" "kinds" "[I", Cond.fieldLink RX0 25 "NameBook$Book" "owners" "[I", Cond.fieldLink RX0 28 "NameBook$Book" "hours" "[I", Cond.fieldLink RX0 31 "NameBook$Book" "needed" "[I", Cond.fieldLink RX0 34 "NameBook$Book" "borne" "[I"]
def wsL_law_r3 : List Cond := [Cond.fieldLink RX0 37 "NameBook$Book" "ages" "[I", Cond.fieldLink RX0 40 "NameBook$Book" "hands" "[I", Cond.fieldLink RX0 43 "NameBook$Book" "helped" "[I", Cond.fieldLink RX0 46 "NameBook$Book" "spots" "[I", Cond.methodLink RX0 49 yJ7_fill_53178, Cond.static yJ7_fill_53178, Cond.initialized RJ7, Cond.code yJ7_fill_53178 cJ7_fill_53178 4 none, Cond.instanceMethod yX5_init, Cond.code yX5_init cX5_init 1 none, Cond.methodLink RX5 3 objectInit, Cond.fieldLink RX5 9 "NameBook$Walk" "hand" "[I", Cond.methodLink RX6 31 yX1_init, Cond.instanceMethod yX1_init, Cond.code yX1_init cX1_init 3 none, Cond.methodLink RX1 3 objectInit, Cond.fieldLink RX1 11 "NameBook$Giving" "takers" "[I", Cond.fieldLink RX1 15 "NameBook$Giving" "got" "[I", Cond.fieldLink RX1 18 "NameBook$Giving" "bestGot" "[I", Cond.fieldLink RX1 21 "NameBook$Giving" "gains" "[I", Cond.fieldLink RX1 24 "NameBook$Giving" "hopes" "[I", Cond.fieldLink RX1 27 "NameBook$Giving" "trial" "LNameBook$Book;", Cond.fieldLink RX1 31 "NameBook$Giving" "walk" "LNameBook$Walk;", Cond.instanceMethod yX4_init]
def wsL_law_r4 : List Cond := [Cond.code yX4_init cX4_init 1 none, Cond.methodLink RX4 3 objectInit, Cond.fieldLink RX4 11 "NameBook$Tape" "bytes" "[I", Cond.instanceMethod yX3_init, Cond.code yX3_init cX3_init 1 none, Cond.methodLink RX3 1 objectInit, Cond.fieldLink RX3 9 "NameBook$Sheet" "numbers" "[I", Cond.methodLink RL 12 yX7_init, Cond.instanceMethod yX7_init, Cond.code yX7_init cX7_init 2 none, Cond.methodLink RX7 3 objectInit, Cond.fieldLink RX7 9 "NameBookModel" "m" "[I", Cond.fieldLink RX7 13 "NameBookModel" "kept" "[I", Cond.fieldLink RX7 16 "NameBookModel" "was" "[I", Cond.fieldLink RX7 19 "NameBookModel" "other" "[I", Cond.fieldLink RX7 22 "NameBookModel" "found" "[I", Cond.fieldLink RX7 25 "NameBookModel" "got" "[I", Cond.fieldLink RX7 28 "NameBookModel" "best" "[I", Cond.fieldLink RX7 31 "NameBookModel" "tape" "[I", Cond.fieldLink RX7 34 "NameBookModel" "bits" "[I", Cond.fieldLink RX7 37 "NameBookModel" "size" "[I", Cond.fieldLink RX7 40 "NameBookModel" "number" "[I", Cond.methodLink RL 13 yX6_worth, Cond.instanceMethod yX6_worth]
def wsL_law_r5 : List Cond := [Cond.selects RX6 yX6_worth yX6_worth, Cond.code yX6_worth cX6_worth 4 (some .int), Cond.constant RX6 64 (-1000001), Cond.fieldLink RX6 69 "NameBook$Book" "worths" "[I", Cond.methodLink RX6 56 yX6_isName, Cond.static yX6_isName, Cond.code yX6_isName cX6_isName 1 (some .boolean), Cond.methodLink RX6 60 yX6_isIn, Cond.static yX6_isIn, Cond.code yX6_isIn cX6_isIn 3 (some .boolean), Cond.methodLink RX6 65 yX6_found, Cond.instanceMethod yX6_found, Cond.selects RX6 yX6_found yX6_found, Cond.code yX6_found cX6_found 3 (some .int), Cond.methodLink RL 17 yX7_worth, Cond.instanceMethod yX7_worth, Cond.selects RX7 yX7_worth yX7_worth, Cond.code yX7_worth cX7_worth 3 (some .int), Cond.constantLong RX7 70 (99), Cond.constant RX7 43 (-1000001), Cond.methodLink RX7 66 yX7_isName, Cond.static yX7_isName, Cond.code yX7_isName cX7_isName 1 (some .boolean), Cond.constantLong RX7 49 (7)]
def wsL_law_r6 : List Cond := [Cond.methodLink RX7 51 yX7_in, Cond.static yX7_in, Cond.code yX7_in cX7_in 6 (some .boolean), Cond.methodLink RX7 72 yX7_becomes, Cond.instanceMethod yX7_becomes, Cond.selects RX7 yX7_becomes yX7_becomes, Cond.code yX7_becomes cX7_becomes 4 (some .int), Cond.methodLink RX7 45 yX7_finds, Cond.instanceMethod yX7_finds, Cond.selects RX7 yX7_finds yX7_finds, Cond.code yX7_finds cX7_finds 2 (some .int), Cond.methodLink RL 18 yX6_task, Cond.instanceMethod yX6_task, Cond.selects RX6 yX6_task yX6_task, Cond.code yX6_task cX6_task 4 (some .int), Cond.fieldLink RX6 77 "NameBook$Book" "taskCount" "I", Cond.constant RX6 81 (-1000002), Cond.methodLink RX6 72 yX2_isKind, Cond.static yX2_isKind, Cond.initialized RX2, Cond.code yX2_isKind cX2_isKind 1 (some .boolean), Cond.fieldLink RX2 7 "NameBook$Kinds" "ABOVE" "[I", Cond.methodLink RX6 82 yX0_addTask, Cond.instanceMethod yX0_addTask]
def wsL_law_r7 : List Cond := [Cond.selects RX0 yX0_addTask yX0_addTask, Cond.code yX0_addTask cX0_addTask 5 (some .int), Cond.fieldLink RX0 58 "NameBook$Book" "taskCount" "I", Cond.methodLink RL 22 yX7_task, Cond.instanceMethod yX7_task, Cond.selects RX7 yX7_task yX7_task, Cond.code yX7_task cX7_task 4 (some .int), Cond.constantLong RX7 78 (999), Cond.constant RX7 80 (-1000002), Cond.methodLink RX7 75 yX7_isKind, Cond.static yX7_isKind, Cond.code yX7_isKind cX7_isKind 1 (some .boolean), Cond.constantLong RX7 55 (6), Cond.methodLink RX7 81 yX7_comes, Cond.instanceMethod yX7_comes, Cond.selects RX7 yX7_comes yX7_comes, Cond.code yX7_comes cX7_comes 6 none, Cond.methodLink RL 23 yX6_taskOf, Cond.instanceMethod yX6_taskOf, Cond.selects RX6 yX6_taskOf yX6_taskOf, Cond.code yX6_taskOf cX6_taskOf 3 (some .int), Cond.fieldLink RX6 89 "NameBook$Book" "kinds" "[I", Cond.fieldLink RX6 92 "NameBook$Book" "owners" "[I", Cond.fieldLink RX6 95 "NameBook$Book" "hours" "[I"]
def wsL_law_r8 : List Cond := [Cond.fieldLink RX6 98 "NameBook$Book" "needed" "[I", Cond.methodLink RX6 86 yX0_hasTask, Cond.instanceMethod yX0_hasTask, Cond.selects RX0 yX0_hasTask yX0_hasTask, Cond.code yX0_hasTask cX0_hasTask 2 (some .boolean), Cond.methodLink RX6 101 yX0_growthOf, Cond.instanceMethod yX0_growthOf, Cond.selects RX0 yX0_growthOf yX0_growthOf, Cond.code yX0_growthOf cX0_growthOf 2 (some .int), Cond.fieldLink RX0 55 "NameBook$Book" "year" "I", Cond.methodLink RX0 71 yX0_isEnded, Cond.instanceMethod yX0_isEnded, Cond.selects RX0 yX0_isEnded yX0_isEnded, Cond.code yX0_isEnded cX0_isEnded 2 (some .boolean), Cond.methodLink RX0 75 yX2_growthOf, Cond.static yX2_growthOf, Cond.code yX2_growthOf cX2_growthOf 3 (some .int), Cond.methodLink RX6 104 yX0_isWaiting, Cond.instanceMethod yX0_isWaiting, Cond.selects RX0 yX0_isWaiting yX0_isWaiting, Cond.code yX0_isWaiting cX0_isWaiting 5 (some .boolean), Cond.methodLink RX0 88 yX0_hasTask, Cond.methodLink RL 26 yX7_taskOf, Cond.instanceMethod yX7_taskOf]
def wsL_law_r9 : List Cond := [Cond.selects RX7 yX7_taskOf yX7_taskOf, Cond.code yX7_taskOf cX7_taskOf 3 (some .int), Cond.constantLong RX7 94 (5), Cond.methodLink RX7 91 yX7_isTask, Cond.instanceMethod yX7_isTask, Cond.selects RX7 yX7_isTask yX7_isTask, Cond.code yX7_isTask cX7_isTask 2 (some .boolean), Cond.methodLink RX7 59 yX7_task0, Cond.instanceMethod yX7_task0, Cond.selects RX7 yX7_task0 yX7_task0, Cond.code yX7_task0 cX7_task0 3 (some .int), Cond.methodLink RX7 96 yX7_grows, Cond.instanceMethod yX7_grows, Cond.selects RX7 yX7_grows yX7_grows, Cond.code yX7_grows cX7_grows 4 (some .int), Cond.methodLink RX7 85 yX7_isEnded, Cond.instanceMethod yX7_isEnded, Cond.selects RX7 yX7_isEnded yX7_isEnded, Cond.code yX7_isEnded cX7_isEnded 2 (some .boolean), Cond.methodLink RX7 99 yX7_comesTo, Cond.instanceMethod yX7_comesTo, Cond.selects RX7 yX7_comesTo yX7_comesTo, Cond.code yX7_comesTo cX7_comesTo 5 (some .boolean), Cond.methodLink RX7 88 yX7_waitsFor]
def wsL_law_r10 : List Cond := [Cond.instanceMethod yX7_waitsFor, Cond.selects RX7 yX7_waitsFor yX7_waitsFor, Cond.code yX7_waitsFor cX7_waitsFor 3 (some .int), Cond.methodLink RL 27 yX6_turn, Cond.instanceMethod yX6_turn, Cond.selects RX6 yX6_turn yX6_turn, Cond.code yX6_turn cX6_turn 4 (some .int), Cond.methodLink RL 30 yX7_turn, Cond.instanceMethod yX7_turn, Cond.selects RX7 yX7_turn yX7_turn, Cond.code yX7_turn cX7_turn 3 (some .int), Cond.methodLink RL 31 yX6_needs, Cond.instanceMethod yX6_needs, Cond.selects RX6 yX6_needs yX6_needs, Cond.code yX6_needs cX6_needs 4 (some .int), Cond.methodLink RL 34 yX7_needs, Cond.instanceMethod yX7_needs, Cond.selects RX7 yX7_needs yX7_needs, Cond.code yX7_needs cX7_needs 4 (some .int), Cond.methodLink RL 35 yX6_strike, Cond.instanceMethod yX6_strike, Cond.selects RX6 yX6_strike yX6_strike, Cond.code yX6_strike cX6_strike 3 (some .int), Cond.methodLink RL 39 yX7_strike]
def wsL_law_r11 : List Cond := [Cond.instanceMethod yX7_strike, Cond.selects RX7 yX7_strike yX7_strike, Cond.code yX7_strike cX7_strike 2 (some .int), Cond.methodLink RL 40 yX6_nameOf, Cond.instanceMethod yX6_nameOf, Cond.selects RX6 yX6_nameOf yX6_nameOf, Cond.code yX6_nameOf cX6_nameOf 3 (some .int), Cond.fieldLink RX6 123 "NameBook$Book" "gone" "[I", Cond.methodLink RX6 108 yX0_isOpen, Cond.instanceMethod yX0_isOpen, Cond.selects RX0 yX0_isOpen yX0_isOpen, Cond.code yX0_isOpen cX0_isOpen 2 (some .boolean), Cond.methodLink RX0 91 yX0_openNames, Cond.instanceMethod yX0_openNames, Cond.selects RX0 yX0_openNames yX0_openNames, Cond.code yX0_openNames cX0_openNames 3 (some .int), Cond.methodLink RX6 111 yX0_bearerOf, Cond.instanceMethod yX0_bearerOf, Cond.selects RX0 yX0_bearerOf yX0_bearerOf, Cond.code yX0_bearerOf cX0_bearerOf 3 (some .int), Cond.fieldLink RX0 61 "NameBook$Book" "personCount" "I", Cond.methodLink RX6 114 yX0_tasksOf, Cond.instanceMethod yX0_tasksOf, Cond.selects RX0 yX0_tasksOf yX0_tasksOf]
def wsL_law_r12 : List Cond := [Cond.code yX0_tasksOf cX0_tasksOf 4 (some .int), Cond.methodLink RX6 117 yX0_hoursOf, Cond.instanceMethod yX0_hoursOf, Cond.selects RX0 yX0_hoursOf yX0_hoursOf, Cond.code yX0_hoursOf cX0_hoursOf 4 (some .int), Cond.methodLink RX6 120 yX0_handOf, Cond.instanceMethod yX0_handOf, Cond.selects RX0 yX0_handOf yX0_handOf, Cond.code yX0_handOf cX0_handOf 3 (some .int), Cond.methodLink RX0 111 yX0_isAtHand, Cond.instanceMethod yX0_isAtHand, Cond.selects RX0 yX0_isAtHand yX0_isAtHand, Cond.code yX0_isAtHand cX0_isAtHand 2 (some .boolean), Cond.methodLink RL 43 yX7_nameOf, Cond.instanceMethod yX7_nameOf, Cond.selects RX7 yX7_nameOf yX7_nameOf, Cond.code yX7_nameOf cX7_nameOf 3 (some .int), Cond.methodLink RX7 103 yX7_isOpen, Cond.instanceMethod yX7_isOpen, Cond.selects RX7 yX7_isOpen yX7_isOpen, Cond.code yX7_isOpen cX7_isOpen 3 (some .boolean), Cond.methodLink RX7 106 yX7_bearer, Cond.instanceMethod yX7_bearer, Cond.selects RX7 yX7_bearer yX7_bearer]
def wsL_law_r13 : List Cond := [Cond.code yX7_bearer cX7_bearer 3 (some .int), Cond.methodLink RX7 63 yX7_person0, Cond.instanceMethod yX7_person0, Cond.selects RX7 yX7_person0 yX7_person0, Cond.code yX7_person0 cX7_person0 3 (some .int), Cond.methodLink RX7 109 yX7_sumOf, Cond.instanceMethod yX7_sumOf, Cond.selects RX7 yX7_sumOf yX7_sumOf, Cond.code yX7_sumOf cX7_sumOf 5 (some .int), Cond.methodLink RX7 113 yX7_atHand, Cond.instanceMethod yX7_atHand, Cond.selects RX7 yX7_atHand yX7_atHand, Cond.code yX7_atHand cX7_atHand 3 (some .int), Cond.methodLink RL 44 yX6_rings, Cond.instanceMethod yX6_rings, Cond.selects RX6 yX6_rings yX6_rings, Cond.code yX6_rings cX6_rings 3 (some .int), Cond.methodLink RL 48 yX7_rings, Cond.instanceMethod yX7_rings, Cond.selects RX7 yX7_rings yX7_rings, Cond.code yX7_rings cX7_rings 3 (some .int), Cond.methodLink RL 49 yX6_waits, Cond.instanceMethod yX6_waits, Cond.selects RX6 yX6_waits yX6_waits]
def wsL_law_r14 : List Cond := [Cond.code yX6_waits cX6_waits 4 (some .int), Cond.methodLink RL 52 yX7_waits, Cond.instanceMethod yX7_waits, Cond.selects RX7 yX7_waits yX7_waits, Cond.code yX7_waits cX7_waits 4 (some .int), Cond.methodLink RL 53 yX6_person, Cond.instanceMethod yX6_person, Cond.selects RX6 yX6_person yX6_person, Cond.code yX6_person cX6_person 2 (some .int), Cond.fieldLink RX6 126 "NameBook$Book" "personCount" "I", Cond.methodLink RX6 129 yX0_addPerson, Cond.instanceMethod yX0_addPerson, Cond.selects RX0 yX0_addPerson yX0_addPerson, Cond.code yX0_addPerson cX0_addPerson 4 (some .int), Cond.methodLink RL 56 yX7_person, Cond.instanceMethod yX7_person, Cond.selects RX7 yX7_person yX7_person, Cond.code yX7_person cX7_person 2 (some .int), Cond.methodLink RX7 116 yX7_areHands, Cond.static yX7_areHands, Cond.code yX7_areHands cX7_areHands 1 (some .boolean), Cond.constantLong RX7 57 (9), Cond.methodLink RX7 119 yX7_isBorn, Cond.instanceMethod yX7_isBorn]
def wsL_law_r15 : List Cond := [Cond.selects RX7 yX7_isBorn yX7_isBorn, Cond.code yX7_isBorn cX7_isBorn 5 none, Cond.methodLink RL 57 yX6_of, Cond.instanceMethod yX6_of, Cond.selects RX6 yX6_of yX6_of, Cond.code yX6_of cX6_of 3 (some .int), Cond.fieldLink RX6 136 "NameBook$Book" "borne" "[I", Cond.fieldLink RX6 139 "NameBook$Book" "ages" "[I", Cond.fieldLink RX6 142 "NameBook$Book" "hands" "[I", Cond.fieldLink RX6 145 "NameBook$Book" "helped" "[I", Cond.methodLink RX6 133 yX0_hasPerson, Cond.instanceMethod yX0_hasPerson, Cond.selects RX0 yX0_hasPerson yX0_hasPerson, Cond.code yX0_hasPerson cX0_hasPerson 2 (some .boolean), Cond.methodLink RL 60 yX7_of, Cond.instanceMethod yX7_of, Cond.selects RX7 yX7_of yX7_of, Cond.code yX7_of cX7_of 3 (some .int), Cond.constantLong RX7 126 (3), Cond.methodLink RX7 123 yX7_isPerson, Cond.instanceMethod yX7_isPerson, Cond.selects RX7 yX7_isPerson yX7_isPerson, Cond.code yX7_isPerson cX7_isPerson 2 (some .boolean), Cond.methodLink RL 61 yX6_change]
def wsL_law_r16 : List Cond := [Cond.instanceMethod yX6_change, Cond.selects RX6 yX6_change yX6_change, Cond.code yX6_change cX6_change 5 (some .int), Cond.methodLink RL 64 yX7_change, Cond.instanceMethod yX7_change, Cond.selects RX7 yX7_change yX7_change, Cond.code yX7_change cX7_change 5 (some .int), Cond.constantLong RX7 128 (39), Cond.methodLink RL 65 yX6_helps, Cond.instanceMethod yX6_helps, Cond.selects RX6 yX6_helps yX6_helps, Cond.code yX6_helps cX6_helps 4 (some .int), Cond.methodLink RL 68 yX7_helps, Cond.instanceMethod yX7_helps, Cond.selects RX7 yX7_helps yX7_helps, Cond.code yX7_helps cX7_helps 4 (some .int), Cond.methodLink RL 69 yX6_take, Cond.instanceMethod yX6_take, Cond.selects RX6 yX6_take yX6_take, Cond.code yX6_take cX6_take 4 (some .int), Cond.constant RX6 151 (-1000005), Cond.methodLink RX6 148 yX0_mayTake, Cond.instanceMethod yX0_mayTake, Cond.selects RX0 yX0_mayTake yX0_mayTake]
def wsL_law_r17 : List Cond := [Cond.code yX0_mayTake cX0_mayTake 4 (some .boolean), Cond.methodLink RX0 81 yX0_bearerOf, Cond.methodLink RL 72 yX7_take, Cond.instanceMethod yX7_take, Cond.selects RX7 yX7_take yX7_take, Cond.code yX7_take cX7_take 4 (some .int), Cond.methodLink RX7 131 yX7_wrongTake, Cond.instanceMethod yX7_wrongTake, Cond.selects RX7 yX7_wrongTake yX7_wrongTake, Cond.code yX7_wrongTake cX7_wrongTake 4 (some .int), Cond.constant RX7 130 (-1000005), Cond.methodLink RL 73 yX6_exchange, Cond.instanceMethod yX6_exchange, Cond.selects RX6 yX6_exchange yX6_exchange, Cond.code yX6_exchange cX6_exchange 4 (some .int), Cond.methodLink RL 76 yX7_exchange, Cond.instanceMethod yX7_exchange, Cond.selects RX7 yX7_exchange yX7_exchange, Cond.code yX7_exchange cX7_exchange 3 (some .int), Cond.methodLink RL 77 yX6_born, Cond.instanceMethod yX6_born, Cond.selects RX6 yX6_born yX6_born, Cond.code yX6_born cX6_born 3 (some .int), Cond.methodLink RX6 152 yX0_draw]
def wsL_law_r18 : List Cond := [Cond.instanceMethod yX0_draw, Cond.selects RX0 yX0_draw yX0_draw, Cond.code yX0_draw cX0_draw 1 (some .int), Cond.constant RX0 70 (1103515245), Cond.methodLink RL 80 yX7_born, Cond.instanceMethod yX7_born, Cond.selects RX7 yX7_born yX7_born, Cond.code yX7_born cX7_born 3 (some .int), Cond.constantLong RX7 135 (8), Cond.methodLink RX7 137 yX7_draw, Cond.instanceMethod yX7_draw, Cond.selects RX7 yX7_draw yX7_draw, Cond.code yX7_draw cX7_draw 1 (some .int), Cond.constant RX7 134 (1103515245), Cond.methodLink RL 81 yX6_years, Cond.instanceMethod yX6_years, Cond.selects RX6 yX6_years yX6_years, Cond.code yX6_years cX6_years 3 (some .int), Cond.methodLink RX6 156 yX6_isTooLate, Cond.instanceMethod yX6_isTooLate, Cond.selects RX6 yX6_isTooLate yX6_isTooLate, Cond.code yX6_isTooLate cX6_isTooLate 2 (some .boolean), Cond.fieldLink RX6 282 "NameBook$Book" "year" "I", Cond.methodLink RX6 159 yX0_endedTasks]
def wsL_law_r19 : List Cond := [Cond.instanceMethod yX0_endedTasks, Cond.selects RX0 yX0_endedTasks yX0_endedTasks, Cond.code yX0_endedTasks cX0_endedTasks 3 (some .int), Cond.methodLink RX6 162 yX5_go, Cond.instanceMethod yX5_go, Cond.selects RX5 yX5_go yX5_go, Cond.code yX5_go cX5_go 4 none, Cond.fieldLink RX5 34 "NameBook$Book" "year" "I", Cond.methodLink RX5 15 yX0_findHands, Cond.instanceMethod yX0_findHands, Cond.selects RX0 yX0_findHands yX0_findHands, Cond.code yX0_findHands cX0_findHands 3 none, Cond.methodLink RX5 21 yX5_bearersWork, Cond.instanceMethod yX5_bearersWork, Cond.selects RX5 yX5_bearersWork yX5_bearersWork, Cond.code yX5_bearersWork cX5_bearersWork 3 none, Cond.fieldLink RX5 38 "NameBook$Book" "personCount" "I", Cond.fieldLink RX5 41 "NameBook$Book" "borne" "[I", Cond.fieldLink RX5 44 "NameBook$Book" "ages" "[I", Cond.fieldLink RX5 47 "NameBook$Book" "hands" "[I", Cond.methodLink RX5 50 yX5_workOn, Cond.instanceMethod yX5_workOn, Cond.selects RX5 yX5_workOn yX5_workOn, Cond.code yX5_workOn cX5_workOn 4 none]
def wsL_law_r20 : List Cond := [Cond.fieldLink RX5 57 "NameBook$Book" "hours" "[I", Cond.methodLink RX5 64 Lib.Math.max.name, Cond.static Lib.Math.max.name, Cond.initialized "java/lang/Math", Cond.code Lib.Math.max.name Lib.Math.max.code 2 (some .int), Cond.methodLink RX5 60 yX0_workOf, Cond.instanceMethod yX0_workOf, Cond.selects RX0 yX0_workOf yX0_workOf, Cond.code yX0_workOf cX0_workOf 4 (some .int), Cond.methodLink RX0 85 yX2_workOf, Cond.static yX2_workOf, Cond.code yX2_workOf cX2_workOf 4 (some .int), Cond.methodLink RX5 25 yX5_helpersWork, Cond.instanceMethod yX5_helpersWork, Cond.selects RX5 yX5_helpersWork yX5_helpersWork, Cond.code yX5_helpersWork cX5_helpersWork 4 none, Cond.fieldLink RX5 54 "NameBook$Book" "helped" "[I", Cond.methodLink RX5 28 yX5_tasksGrow, Cond.instanceMethod yX5_tasksGrow, Cond.selects RX5 yX5_tasksGrow yX5_tasksGrow, Cond.code yX5_tasksGrow cX5_tasksGrow 3 none, Cond.fieldLink RX5 69 "NameBook$Book" "taskCount" "I", Cond.fieldLink RX5 72 "NameBook$Book" "kinds" "[I", Cond.methodLink RX5 79 Lib.Math.min.name]
def wsL_law_r21 : List Cond := [Cond.static Lib.Math.min.name, Cond.code Lib.Math.min.name Lib.Math.min.code 2 (some .int), Cond.methodLink RX5 75 yX0_growthOf, Cond.methodLink RX5 31 yX5_personsAge, Cond.instanceMethod yX5_personsAge, Cond.selects RX5 yX5_personsAge yX5_personsAge, Cond.code yX5_personsAge cX5_personsAge 3 none, Cond.methodLink RX5 82 yX5_leave, Cond.instanceMethod yX5_leave, Cond.selects RX5 yX5_leave yX5_leave, Cond.code yX5_leave cX5_leave 4 none, Cond.fieldLink RX5 86 "NameBook$Book" "gone" "[I", Cond.methodLink RX5 89 yX0_isOpen, Cond.methodLink RX5 95 yX0_addTask, Cond.methodLink RL 84 yX7_years, Cond.instanceMethod yX7_years, Cond.selects RX7 yX7_years yX7_years, Cond.code yX7_years cX7_years 3 (some .int), Cond.constantLong RX7 170 (60), Cond.methodLink RX7 172 yX7_isFarOn, Cond.instanceMethod yX7_isFarOn, Cond.selects RX7 yX7_isFarOn yX7_isFarOn, Cond.code yX7_isFarOn cX7_isFarOn 2 (some .boolean), Cond.methodLink RX7 175 yX7_ended]
def wsL_law_r22 : List Cond := [Cond.instanceMethod yX7_ended, Cond.selects RX7 yX7_ended yX7_ended, Cond.code yX7_ended cX7_ended 1 (some .int), Cond.methodLink RX7 164 yX7_unended, Cond.instanceMethod yX7_unended, Cond.selects RX7 yX7_unended yX7_unended, Cond.code yX7_unended cX7_unended 3 (some .int), Cond.methodLink RX7 178 yX7_yearsGo, Cond.instanceMethod yX7_yearsGo, Cond.selects RX7 yX7_yearsGo yX7_yearsGo, Cond.code yX7_yearsGo cX7_yearsGo 3 none, Cond.methodLink RX7 167 yX7_year, Cond.instanceMethod yX7_year, Cond.selects RX7 yX7_year yX7_year, Cond.code yX7_year cX7_year 2 none, Cond.methodLink RX7 153 yX7_does, Cond.instanceMethod yX7_does, Cond.selects RX7 yX7_does yX7_does, Cond.code yX7_does cX7_does 4 none, Cond.methodLink RX7 144 yX7_work, Cond.instanceMethod yX7_work, Cond.selects RX7 yX7_work yX7_work, Cond.code yX7_work cX7_work 4 (some .int), Cond.methodLink RX7 141 yX7_isBorneThere]
def wsL_law_r23 : List Cond := [Cond.instanceMethod yX7_isBorneThere, Cond.selects RX7 yX7_isBorneThere yX7_isBorneThere, Cond.code yX7_isBorneThere cX7_isBorneThere 3 (some .boolean), Cond.methodLink RX7 147 yX7_held, Cond.static yX7_held, Cond.code yX7_held cX7_held 1 (some .int), Cond.methodLink RX7 157 yX7_helpsNow, Cond.instanceMethod yX7_helpsNow, Cond.selects RX7 yX7_helpsNow yX7_helpsNow, Cond.code yX7_helpsNow cX7_helpsNow 3 none, Cond.methodLink RX7 150 yX7_isFree, Cond.instanceMethod yX7_isFree, Cond.selects RX7 yX7_isFree yX7_isFree, Cond.code yX7_isFree cX7_isFree 3 (some .boolean), Cond.methodLink RX7 161 yX7_leaves, Cond.instanceMethod yX7_leaves, Cond.selects RX7 yX7_leaves yX7_leaves, Cond.code yX7_leaves cX7_leaves 3 none, Cond.methodLink RL 85 yX6_ahead, Cond.instanceMethod yX6_ahead, Cond.selects RX6 yX6_ahead yX6_ahead, Cond.code yX6_ahead cX6_ahead 3 (some .int), Cond.methodLink RX6 166 yX6_lookAhead, Cond.instanceMethod yX6_lookAhead]
def wsL_law_r24 : List Cond := [Cond.selects RX6 yX6_lookAhead yX6_lookAhead, Cond.code yX6_lookAhead cX6_lookAhead 2 none, Cond.methodLink RX6 212 yX0_setTo, Cond.instanceMethod yX0_setTo, Cond.selects RX0 yX0_setTo yX0_setTo, Cond.code yX0_setTo cX0_setTo 2 none, Cond.methodLink RX0 64 arraycopyName, Cond.native arraycopyName, Cond.static arraycopyName, Cond.initialized "java/lang/System", Cond.methodLink RX6 170 yX0_hoursOfAll, Cond.instanceMethod yX0_hoursOfAll, Cond.selects RX0 yX0_hoursOfAll yX0_hoursOfAll, Cond.code yX0_hoursOfAll cX0_hoursOfAll 3 (some .int), Cond.methodLink RX6 173 yX0_openNames, Cond.methodLink RX6 176 yX0_endedWorth, Cond.instanceMethod yX0_endedWorth, Cond.selects RX0 yX0_endedWorth yX0_endedWorth, Cond.code yX0_endedWorth cX0_endedWorth 3 (some .int), Cond.methodLink RX0 114 yX0_worthOf, Cond.instanceMethod yX0_worthOf, Cond.selects RX0 yX0_worthOf yX0_worthOf, Cond.code yX0_worthOf cX0_worthOf 4 (some .int), Cond.methodLink RX6 179 yX0_goneOfAll]
def wsL_law_r25 : List Cond := [Cond.instanceMethod yX0_goneOfAll, Cond.selects RX0 yX0_goneOfAll yX0_goneOfAll, Cond.code yX0_goneOfAll cX0_goneOfAll 3 (some .int), Cond.methodLink RL 88 yX7_ahead, Cond.instanceMethod yX7_ahead, Cond.selects RX7 yX7_ahead yX7_ahead, Cond.code yX7_ahead cX7_ahead 4 (some .int), Cond.constantLong RX7 181 (100), Cond.constantLong RX7 183 (4), Cond.methodLink RX7 185 yX7_row, Cond.static yX7_row, Cond.code yX7_row cX7_row 3 none, Cond.methodLink RX7 189 yX7_hours, Cond.instanceMethod yX7_hours, Cond.selects RX7 yX7_hours yX7_hours, Cond.code yX7_hours cX7_hours 3 (some .int), Cond.methodLink RX7 192 yX7_openNames, Cond.instanceMethod yX7_openNames, Cond.selects RX7 yX7_openNames yX7_openNames, Cond.code yX7_openNames cX7_openNames 3 (some .int), Cond.methodLink RX7 195 yX7_endedWorth, Cond.instanceMethod yX7_endedWorth, Cond.selects RX7 yX7_endedWorth yX7_endedWorth, Cond.code yX7_endedWorth cX7_endedWorth 3 (some .int)]
def wsL_law_r26 : List Cond := [Cond.methodLink RX7 198 yX7_allLives, Cond.instanceMethod yX7_allLives, Cond.selects RX7 yX7_allLives yX7_allLives, Cond.code yX7_allLives cX7_allLives 3 (some .int), Cond.methodLink RL 89 yX6_shut, Cond.instanceMethod yX6_shut, Cond.selects RX6 yX6_shut yX6_shut, Cond.code yX6_shut cX6_shut 3 (some .int), Cond.constant RX6 182 (-1000004), Cond.methodLink RL 92 yX7_shut, Cond.instanceMethod yX7_shut, Cond.selects RX7 yX7_shut yX7_shut, Cond.code yX7_shut cX7_shut 3 (some .int), Cond.constant RX7 44 (-1000004), Cond.methodLink RX7 201 yX7_overIn, Cond.instanceMethod yX7_overIn, Cond.selects RX7 yX7_overIn yX7_overIn, Cond.code yX7_overIn cX7_overIn 5 (some .int), Cond.methodLink RL 93 yX6_ends, Cond.instanceMethod yX6_ends, Cond.selects RX6 yX6_ends yX6_ends, Cond.code yX6_ends cX6_ends 3 (some .int), Cond.methodLink RX6 183 yX0_isEnded, Cond.methodLink RL 96 yX7_ends]
def wsL_law_r27 : List Cond := [Cond.instanceMethod yX7_ends, Cond.selects RX7 yX7_ends yX7_ends, Cond.code yX7_ends cX7_ends 3 (some .int), Cond.methodLink RL 97 yX6_choose, Cond.instanceMethod yX6_choose, Cond.selects RX6 yX6_choose yX6_choose, Cond.code yX6_choose cX6_choose 6 (some .int), Cond.methodLink RX6 186 yX0_freeNames, Cond.instanceMethod yX0_freeNames, Cond.selects RX0 yX0_freeNames yX0_freeNames, Cond.code yX0_freeNames cX0_freeNames 3 (some .int), Cond.methodLink RX6 189 yX6_isShutInTime, Cond.instanceMethod yX6_isShutInTime, Cond.selects RX6 yX6_isShutInTime yX6_isShutInTime, Cond.code yX6_isShutInTime cX6_isShutInTime 4 (some .boolean), Cond.methodLink RL 100 yX7_choose, Cond.instanceMethod yX7_choose, Cond.selects RX7 yX7_choose yX7_choose, Cond.code yX7_choose cX7_choose 4 (some .int), Cond.methodLink RX7 205 yX7_isShutInTime, Cond.instanceMethod yX7_isShutInTime, Cond.selects RX7 yX7_isShutInTime yX7_isShutInTime, Cond.code yX7_isShutInTime cX7_isShutInTime 4 (some .boolean), Cond.methodLink RX7 208 yX7_orNone]
def wsL_law_r28 : List Cond := [Cond.instanceMethod yX7_orNone, Cond.selects RX7 yX7_orNone yX7_orNone, Cond.code yX7_orNone cX7_orNone 2 (some .int), Cond.methodLink RL 101 yX6_handsFor, Cond.instanceMethod yX6_handsFor, Cond.selects RX6 yX6_handsFor yX6_handsFor, Cond.code yX6_handsFor cX6_handsFor 4 (some .int), Cond.methodLink RL 104 yX7_handsFor, Cond.instanceMethod yX7_handsFor, Cond.selects RX7 yX7_handsFor yX7_handsFor, Cond.code yX7_handsFor cX7_handsFor 5 (some .int), Cond.methodLink RL 105 yX6_most, Cond.instanceMethod yX6_most, Cond.selects RX6 yX6_most yX6_most, Cond.code yX6_most cX6_most 3 (some .int), Cond.fieldLink RX6 198 "NameBook$Giving" "sure" "I", Cond.fieldLink RX6 205 "NameBook$Giving" "bestWorth" "I", Cond.methodLink RX6 192 yX6_whyNoGiving, Cond.instanceMethod yX6_whyNoGiving, Cond.selects RX6 yX6_whyNoGiving yX6_whyNoGiving, Cond.code yX6_whyNoGiving cX6_whyNoGiving 2 (some .int), Cond.constant RX6 243 (-1000007), Cond.methodLink RX6 288 yX1_gather, Cond.instanceMethod yX1_gather]
def wsL_law_r29 : List Cond := [Cond.selects RX1 yX1_gather yX1_gather, Cond.code yX1_gather cX1_gather 3 (some .boolean), Cond.fieldLink RX1 35 "NameBook$Giving" "takerCount" "I", Cond.fieldLink RX1 39 "NameBook$Book" "personCount" "I", Cond.fieldLink RX1 44 "NameBook$Book" "borne" "[I", Cond.fieldLink RX1 47 "NameBook$Book" "ages" "[I", Cond.methodLink RX6 195 yX1_begin, Cond.instanceMethod yX1_begin, Cond.selects RX1 yX1_begin yX1_begin, Cond.code yX1_begin cX1_begin 4 none, Cond.fieldLink RX1 50 "NameBook$Giving" "bestWorth" "I", Cond.fieldLink RX1 61 "NameBook$Giving" "sure" "I", Cond.methodLink RX1 53 yX1_findGains, Cond.instanceMethod yX1_findGains, Cond.selects RX1 yX1_findGains yX1_findGains, Cond.code yX1_findGains cX1_findGains 8 none, Cond.methodLink RX1 75 Lib.Math.max.name, Cond.methodLink RX1 72 yX0_freeNames, Cond.methodLink RX1 68 yX1_gainOf, Cond.static yX1_gainOf, Cond.code yX1_gainOf cX1_gainOf 4 (some .int), Cond.fieldLink RX1 89 "NameBook$Book" "worths" "[I", Cond.methodLink RX1 81 yX0_hoursOf, Cond.methodLink RX1 85 yX0_mostWork]
def wsL_law_r30 : List Cond := [Cond.instanceMethod yX0_mostWork, Cond.selects RX0 yX0_mostWork yX0_mostWork, Cond.code yX0_mostWork cX0_mostWork 7 (some .int), Cond.methodLink RX0 95 Lib.Math.min.name, Cond.methodLink RX0 101 Lib.Math.max.name, Cond.methodLink RX0 104 yX0_mostWorkOf, Cond.instanceMethod yX0_mostWorkOf, Cond.selects RX0 yX0_mostWorkOf yX0_mostWorkOf, Cond.code yX0_mostWorkOf cX0_mostWorkOf 4 (some .int), Cond.methodLink RX0 107 yX2_isUnder, Cond.static yX2_isUnder, Cond.code yX2_isUnder cX2_isUnder 4 (some .boolean), Cond.methodLink RX1 57 yX0_endedWorth, Cond.methodLink RX1 64 yX0_isOpen, Cond.methodLink RX6 201 yX1_weighFrom, Cond.instanceMethod yX1_weighFrom, Cond.selects RX1 yX1_weighFrom yX1_weighFrom, Cond.code yX1_weighFrom cX1_weighFrom 7 none, Cond.methodLink RX1 92 yX1_weigh, Cond.instanceMethod yX1_weigh, Cond.selects RX1 yX1_weigh yX1_weigh, Cond.code yX1_weigh cX1_weigh 4 none, Cond.methodLink RX1 108 arraycopyName, Cond.methodLink RX1 99 yX0_setTo]
def wsL_law_r31 : List Cond := [Cond.methodLink RX1 103 yX5_go, Cond.methodLink RX1 95 yX1_weighFrom, Cond.methodLink RL 108 yX7_most, Cond.instanceMethod yX7_most, Cond.selects RX7 yX7_most yX7_most, Cond.code yX7_most cX7_most 3 (some .int), Cond.methodLink RX7 220 yX7_wrongWay, Cond.instanceMethod yX7_wrongWay, Cond.selects RX7 yX7_wrongWay yX7_wrongWay, Cond.code yX7_wrongWay cX7_wrongWay 2 (some .int), Cond.constantLong RX7 214 (40), Cond.constant RX7 219 (-1000007), Cond.methodLink RX7 216 yX7_waiting, Cond.instanceMethod yX7_waiting, Cond.selects RX7 yX7_waiting yX7_waiting, Cond.code yX7_waiting cX7_waiting 3 (some .int), Cond.methodLink RX7 211 yX7_mayGet, Cond.instanceMethod yX7_mayGet, Cond.selects RX7 yX7_mayGet yX7_mayGet, Cond.code yX7_mayGet cX7_mayGet 2 (some .boolean), Cond.methodLink RX7 223 yX7_bestWay, Cond.instanceMethod yX7_bestWay, Cond.selects RX7 yX7_bestWay yX7_bestWay, Cond.code yX7_bestWay cX7_bestWay 10 (some .int)]
def wsL_law_r32 : List Cond := [Cond.methodLink RL 109 yX6_give, Cond.instanceMethod yX6_give, Cond.selects RX6 yX6_give yX6_give, Cond.code yX6_give cX6_give 3 (some .int), Cond.methodLink RX6 208 yX1_carryOut, Cond.instanceMethod yX1_carryOut, Cond.selects RX1 yX1_carryOut yX1_carryOut, Cond.code yX1_carryOut cX1_carryOut 4 (some .int), Cond.methodLink RL 112 yX7_give, Cond.instanceMethod yX7_give, Cond.selects RX7 yX7_give yX7_give, Cond.code yX7_give cX7_give 5 (some .int), Cond.methodLink RL 113 yX6_lives, Cond.instanceMethod yX6_lives, Cond.selects RX6 yX6_lives yX6_lives, Cond.code yX6_lives cX6_lives 4 (some .int), Cond.methodLink RL 116 yX7_lives, Cond.instanceMethod yX7_lives, Cond.selects RX7 yX7_lives yX7_lives, Cond.code yX7_lives cX7_lives 5 (some .int), Cond.methodLink RL 117 yX6_best, Cond.instanceMethod yX6_best, Cond.selects RX6 yX6_best yX6_best, Cond.code yX6_best cX6_best 6 (some .int)]
def wsL_law_r33 : List Cond := [Cond.methodLink RL 120 yX7_best, Cond.instanceMethod yX7_best, Cond.selects RX7 yX7_best yX7_best, Cond.code yX7_best cX7_best 7 (some .int), Cond.methodLink RX7 226 yX7_hoursBehind, Cond.instanceMethod yX7_hoursBehind, Cond.selects RX7 yX7_hoursBehind yX7_hoursBehind, Cond.code yX7_hoursBehind cX7_hoursBehind 3 (some .int), Cond.methodLink RL 121 yX6_whom, Cond.instanceMethod yX6_whom, Cond.selects RX6 yX6_whom yX6_whom, Cond.code yX6_whom cX6_whom 7 (some .int), Cond.methodLink RL 124 yX7_whom, Cond.instanceMethod yX7_whom, Cond.selects RX7 yX7_whom yX7_whom, Cond.code yX7_whom cX7_whom 9 (some .int), Cond.methodLink RL 125 yX6_seed, Cond.instanceMethod yX6_seed, Cond.selects RX6 yX6_seed yX6_seed, Cond.code yX6_seed cX6_seed 3 (some .int), Cond.fieldLink RX6 216 "NameBook$Book" "z" "I", Cond.methodLink RL 128 yX7_seed, Cond.instanceMethod yX7_seed, Cond.selects RX7 yX7_seed yX7_seed]
def wsL_law_r34 : List Cond := [Cond.code yX7_seed cX7_seed 2 (some .int), Cond.methodLink RL 129 yX6_feed, Cond.instanceMethod yX6_feed, Cond.selects RX6 yX6_feed yX6_feed, Cond.code yX6_feed cX6_feed 3 (some .int), Cond.methodLink RX6 219 yX4_hasRoomFor, Cond.instanceMethod yX4_hasRoomFor, Cond.selects RX4 yX4_hasRoomFor yX4_hasRoomFor, Cond.code yX4_hasRoomFor cX4_hasRoomFor 2 (some .boolean), Cond.fieldLink RX4 15 "NameBook$Tape" "length" "I", Cond.methodLink RX6 222 yX4_append, Cond.instanceMethod yX4_append, Cond.selects RX4 yX4_append yX4_append, Cond.code yX4_append cX4_append 4 (some .int), Cond.methodLink RL 132 yX7_feed, Cond.instanceMethod yX7_feed, Cond.selects RX7 yX7_feed yX7_feed, Cond.code yX7_feed cX7_feed 4 (some .int), Cond.fieldLink RX7 229 "NameBookModel" "taped" "I", Cond.methodLink RL 133 yX6_wipe, Cond.instanceMethod yX6_wipe, Cond.selects RX6 yX6_wipe yX6_wipe, Cond.code yX6_wipe cX6_wipe 1 (some .int), Cond.methodLink RX6 226 yX4_clear]
def wsL_law_r35 : List Cond := [Cond.instanceMethod yX4_clear, Cond.selects RX4 yX4_clear yX4_clear, Cond.code yX4_clear cX4_clear 2 (some .int), Cond.methodLink RL 136 yX7_wipe, Cond.instanceMethod yX7_wipe, Cond.selects RX7 yX7_wipe yX7_wipe, Cond.code yX7_wipe cX7_wipe 2 (some .int), Cond.methodLink RL 137 yX6_text, Cond.instanceMethod yX6_text, Cond.selects RX6 yX6_text yX6_text, Cond.code yX6_text cX6_text 2 (some .int), Cond.methodLink RX6 229 yX4_readInto, Cond.instanceMethod yX4_readInto, Cond.selects RX4 yX4_readInto yX4_readInto, Cond.code yX4_readInto cX4_readInto 3 (some .int), Cond.fieldLink RX4 19 "NameBook$Tape" "end" "I", Cond.fieldLink RX4 29 "NameBook$Tape" "sort" "I", Cond.fieldLink RX4 32 "NameBook$Tape" "start" "I", Cond.methodLink RX4 22 yX4_advance, Cond.instanceMethod yX4_advance, Cond.selects RX4 yX4_advance yX4_advance, Cond.code yX4_advance cX4_advance 1 none, Cond.methodLink RX4 35 yX4_isLetter, Cond.instanceMethod yX4_isLetter]
def wsL_law_r36 : List Cond := [Cond.selects RX4 yX4_isLetter yX4_isLetter, Cond.code yX4_isLetter cX4_isLetter 2 (some .boolean), Cond.methodLink RX4 39 yX4_isDigit, Cond.instanceMethod yX4_isDigit, Cond.selects RX4 yX4_isDigit yX4_isDigit, Cond.code yX4_isDigit cX4_isDigit 2 (some .boolean), Cond.methodLink RX4 42 yX4_readNumber, Cond.instanceMethod yX4_readNumber, Cond.selects RX4 yX4_readNumber yX4_readNumber, Cond.code yX4_readNumber cX4_readNumber 1 none, Cond.fieldLink RX4 45 "NameBook$Tape" "value" "I", Cond.methodLink RX4 48 Lib.Math.min.name, Cond.methodLink RX4 25 yX4_readItem, Cond.instanceMethod yX4_readItem, Cond.selects RX4 yX4_readItem yX4_readItem, Cond.code yX4_readItem cX4_readItem 3 (some .boolean), Cond.fieldLink RX4 77 "NameBook$Book" "personCount" "I", Cond.fieldLink RX4 88 "NameBook$Book" "taskCount" "I", Cond.methodLink RX4 69 yX4_passWord, Cond.instanceMethod yX4_passWord, Cond.selects RX4 yX4_passWord yX4_passWord, Cond.code yX4_passWord cX4_passWord 3 (some .boolean), Cond.methodLink RX4 63 yX4_isWord, Cond.instanceMethod yX4_isWord]
def wsL_law_r37 : List Cond := [Cond.selects RX4 yX4_isWord yX4_isWord, Cond.code yX4_isWord cX4_isWord 3 (some .boolean), Cond.methodLink RX4 54 yJ0_length_8abf5, Cond.instanceMethod yJ0_length_8abf5, Cond.selects RJ0 yJ0_length_8abf5 yJ0_length_8abf5, Cond.initialized RJ0, Cond.code yJ0_length_8abf5 cJ0_length_8abf5 1 (some .int), Cond.fieldLink RJ0 9 "java/lang/String" "value" "[B", Cond.methodLink RJ0 335 yJ0_coder_7d493, Cond.instanceMethod yJ0_coder_7d493, Cond.selects RJ0 yJ0_coder_7d493 yJ0_coder_7d493, Cond.code yJ0_coder_7d493 cJ0_coder_7d493 1 (some .byte), Cond.fieldLink RJ0 38 "java/lang/String" "COMPACT_STRINGS" "Z", Cond.fieldLink RJ0 15 "java/lang/String" "coder" "B", Cond.methodLink RX4 59 yJ0_charAt_5068e, Cond.instanceMethod yJ0_charAt_5068e, Cond.selects RJ0 yJ0_charAt_5068e yJ0_charAt_5068e, Cond.code yJ0_charAt_5068e cJ0_charAt_5068e 2 (some .char), Cond.methodLink RJ0 492 yJ0_isLatin1_aae02, Cond.instanceMethod yJ0_isLatin1_aae02, Cond.selects RJ0 yJ0_isLatin1_aae02 yJ0_isLatin1_aae02, Cond.code yJ0_isLatin1_aae02 cJ0_isLatin1_aae02 1 (some .boolean), Cond.methodLink RJ0 495 yJ1_charAt_3b067, Cond.static yJ1_charAt_3b067]
def wsL_law_r38 : List Cond := [Cond.initialized RJ1, Cond.code yJ1_charAt_3b067 cJ1_charAt_3b067 2 (some .char), Cond.methodLink RJ1 9 yJ0_checkIndex_df160, Cond.static yJ0_checkIndex_df160, Cond.code yJ0_checkIndex_df160 cJ0_checkIndex_df160 2 none, Cond.fieldLink RJ0 1053 "jdk/internal/util/Preconditions" "SIOOBE_FORMATTER" "Ljava/util/function/BiFunction;", Cond.methodLink RJ0 1059 yJ3_checkIndex_8e157, Cond.static yJ3_checkIndex_8e157, Cond.initialized RJ3, Cond.code yJ3_checkIndex_8e157 cJ3_checkIndex_8e157 3 (some .int), Cond.methodLink RJ0 498 yJ2_charAt_3b067, Cond.static yJ2_charAt_3b067, Cond.initialized RJ2, Cond.code yJ2_charAt_3b067 cJ2_charAt_3b067 2 (some .char), Cond.methodLink RJ2 67 yJ2_checkIndex_2214a, Cond.static yJ2_checkIndex_2214a, Cond.code yJ2_checkIndex_2214a cJ2_checkIndex_2214a 2 none, Cond.methodLink RJ2 48 yJ2_length_9d52b, Cond.static yJ2_length_9d52b, Cond.code yJ2_length_9d52b cJ2_length_9d52b 1 (some .int), Cond.methodLink RJ2 414 yJ0_checkIndex_df160, Cond.methodLink RJ2 71 yJ2_getChar_3b067, Cond.static yJ2_getChar_3b067, Cond.code yJ2_getChar_3b067 cJ2_getChar_3b067 2 (some .char)]
def wsL_law_r39 : List Cond := [Cond.fieldLink RJ2 44 "java/lang/StringUTF16" "$assertionsDisabled" "Z", Cond.fieldLink RJ2 59 "java/lang/StringUTF16" "HI_BYTE_SHIFT" "I", Cond.fieldLink RJ2 63 "java/lang/StringUTF16" "LO_BYTE_SHIFT" "I", Cond.methodLink RX4 72 yX4_readName, Cond.instanceMethod yX4_readName, Cond.selects RX4 yX4_readName yX4_readName, Cond.code yX4_readName cX4_readName 4 (some .boolean), Cond.fieldLink RX4 116 "NameBook$Book" "worths" "[I", Cond.methodLink RX4 111 yX4_passNumber, Cond.instanceMethod yX4_passNumber, Cond.selects RX4 yX4_passNumber yX4_passNumber, Cond.code yX4_passNumber cX4_passNumber 4 (some .int), Cond.methodLink RX4 82 yX4_readPerson, Cond.instanceMethod yX4_readPerson, Cond.selects RX4 yX4_readPerson yX4_readPerson, Cond.code yX4_readPerson cX4_readPerson 5 (some .boolean), Cond.methodLink RX4 133 yX0_bearerOf, Cond.methodLink RX4 137 yX0_addPerson, Cond.methodLink RX4 85 yX4_kindHere, Cond.instanceMethod yX4_kindHere, Cond.selects RX4 yX4_kindHere yX4_kindHere, Cond.code yX4_kindHere cX4_kindHere 1 (some .int), Cond.methodLink RX4 91 yX4_readTask, Cond.instanceMethod yX4_readTask]
def wsL_law_r40 : List Cond := [Cond.selects RX4 yX4_readTask yX4_readTask, Cond.code yX4_readTask cX4_readTask 6 (some .boolean), Cond.methodLink RX4 123 yX0_addTask, Cond.methodLink RL 140 yX7_text, Cond.instanceMethod yX7_text, Cond.selects RX7 yX7_text yX7_text, Cond.code yX7_text cX7_text 4 (some .int), Cond.fieldLink RX7 233 "NameBookModel" "to" "I", Cond.fieldLink RX7 249 "NameBookModel" "bad" "Z", Cond.fieldLink RX7 246 "NameBookModel" "sort" "I", Cond.fieldLink RX7 236 "NameBookModel" "from" "I", Cond.methodLink RX7 266 yX7_token, Cond.instanceMethod yX7_token, Cond.selects RX7 yX7_token yX7_token, Cond.code yX7_token cX7_token 1 none, Cond.fieldLink RX7 243 "NameBookModel" "value" "I", Cond.methodLink RX7 239 yX7_isByte, Cond.instanceMethod yX7_isByte, Cond.selects RX7 yX7_isByte yX7_isByte, Cond.code yX7_isByte cX7_isByte 4 (some .boolean), Cond.methodLink RX7 320 yX7_item, Cond.instanceMethod yX7_item, Cond.selects RX7 yX7_item yX7_item, Cond.code yX7_item cX7_item 2 none]
def wsL_law_r41 : List Cond := [Cond.methodLink RX7 306 yX7_kindHere, Cond.instanceMethod yX7_kindHere, Cond.selects RX7 yX7_kindHere yX7_kindHere, Cond.code yX7_kindHere cX7_kindHere 1 (some .int), Cond.methodLink RX7 262 yX7_isWord, Cond.instanceMethod yX7_isWord, Cond.selects RX7 yX7_isWord yX7_isWord, Cond.code yX7_isWord cX7_isWord 4 (some .boolean), Cond.methodLink RX7 253 yJ0_length_8abf5, Cond.methodLink RX7 258 yJ0_charAt_5068e, Cond.methodLink RX7 269 yX7_takes, Cond.instanceMethod yX7_takes, Cond.selects RX7 yX7_takes yX7_takes, Cond.code yX7_takes cX7_takes 2 (some .boolean), Cond.methodLink RX7 311 yX7_nameItem, Cond.instanceMethod yX7_nameItem, Cond.selects RX7 yX7_nameItem yX7_nameItem, Cond.code yX7_nameItem cX7_nameItem 3 none, Cond.methodLink RX7 286 yX7_number, Cond.instanceMethod yX7_number, Cond.selects RX7 yX7_number yX7_number, Cond.code yX7_number cX7_number 5 (some .int), Cond.methodLink RX7 291 yX7_word, Cond.instanceMethod yX7_word]
def wsL_law_r42 : List Cond := [Cond.selects RX7 yX7_word yX7_word, Cond.code yX7_word cX7_word 2 none, Cond.methodLink RX7 314 yX7_taskItem, Cond.instanceMethod yX7_taskItem, Cond.selects RX7 yX7_taskItem yX7_taskItem, Cond.code yX7_taskItem cX7_taskItem 5 none, Cond.methodLink RX7 317 yX7_personItem, Cond.instanceMethod yX7_personItem, Cond.selects RX7 yX7_personItem yX7_personItem, Cond.code yX7_personItem cX7_personItem 4 none, Cond.methodLink RX7 323 yX7_isSign, Cond.instanceMethod yX7_isSign, Cond.selects RX7 yX7_isSign yX7_isSign, Cond.code yX7_isSign cX7_isSign 2 (some .boolean), Cond.methodLink RL 141 yX6_hold, Cond.instanceMethod yX6_hold, Cond.selects RX6 yX6_hold yX6_hold, Cond.code yX6_hold cX6_hold 3 (some .int), Cond.fieldLink RX6 232 "NameBook$Book" "spots" "[I", Cond.methodLink RL 144 yX7_hold, Cond.instanceMethod yX7_hold, Cond.selects RX7 yX7_hold yX7_hold, Cond.code yX7_hold cX7_hold 3 (some .int), Cond.methodLink RL 145 yX6_as]
def wsL_law_r43 : List Cond := [Cond.instanceMethod yX6_as, Cond.selects RX6 yX6_as yX6_as, Cond.code yX6_as cX6_as 4 (some .int), Cond.constant RX6 235 (-1000006), Cond.constant RX6 239 (-1000003), Cond.methodLink RX6 236 yX2_isUnder, Cond.methodLink RL 148 yX7_as, Cond.instanceMethod yX7_as, Cond.selects RX7 yX7_as yX7_as, Cond.code yX7_as cX7_as 5 (some .int), Cond.constant RX7 326 (-1000006), Cond.constant RX7 330 (-1000003), Cond.methodLink RX7 327 yX7_above, Cond.static yX7_above, Cond.code yX7_above cX7_above 1 (some .int), Cond.methodLink RL 149 yX6_sheet, Cond.instanceMethod yX6_sheet, Cond.selects RX6 yX6_sheet yX6_sheet, Cond.code yX6_sheet cX6_sheet 4 (some .int), Cond.methodLink RX6 240 yX6_isSheet, Cond.static yX6_isSheet, Cond.code yX6_isSheet cX6_isSheet 1 (some .boolean), Cond.methodLink RX6 244 yX3_become, Cond.instanceMethod yX3_become]
def wsL_law_r44 : List Cond := [Cond.selects RX3 yX3_become yX3_become, Cond.code yX3_become cX3_become 3 (some .int), Cond.fieldLink RX3 13 "NameBook$Sheet" "bits" "I", Cond.fieldLink RX3 17 "NameBook$Sheet" "size" "I", Cond.methodLink RX3 20 yJ7_fill_53178, Cond.methodLink RL 152 yX7_sheet, Cond.instanceMethod yX7_sheet, Cond.selects RX7 yX7_sheet yX7_sheet, Cond.code yX7_sheet cX7_sheet 5 (some .int), Cond.methodLink RX7 331 yX7_isSheet, Cond.static yX7_isSheet, Cond.code yX7_isSheet cX7_isSheet 1 (some .boolean), Cond.methodLink RL 153 yX6_write, Cond.instanceMethod yX6_write, Cond.selects RX6 yX6_write yX6_write, Cond.code yX6_write cX6_write 4 (some .int), Cond.fieldLink RX6 251 "NameBook$Sheet" "size" "I", Cond.methodLink RX6 247 yX3_isMissing, Cond.instanceMethod yX3_isMissing, Cond.selects RX3 yX3_isMissing yX3_isMissing, Cond.code yX3_isMissing cX3_isMissing 1 (some .boolean), Cond.methodLink RX6 254 yX3_put, Cond.instanceMethod yX3_put, Cond.selects RX3 yX3_put yX3_put]
def wsL_law_r45 : List Cond := [Cond.code yX3_put cX3_put 3 none, Cond.methodLink RL 156 yX7_write, Cond.instanceMethod yX7_write, Cond.selects RX7 yX7_write yX7_write, Cond.code yX7_write cX7_write 4 (some .int), Cond.methodLink RL 157 yX6_copy, Cond.instanceMethod yX6_copy, Cond.selects RX6 yX6_copy yX6_copy, Cond.code yX6_copy cX6_copy 6 (some .int), Cond.fieldLink RX6 258 "NameBook$Sheet" "bits" "I", Cond.fieldLink RX6 264 "NameBook$Sheet" "numbers" "[I", Cond.methodLink RX6 267 arraycopyName, Cond.methodLink RX6 261 yX3_hasRange, Cond.instanceMethod yX3_hasRange, Cond.selects RX3 yX3_hasRange yX3_hasRange, Cond.code yX3_hasRange cX3_hasRange 3 (some .boolean), Cond.methodLink RL 161 yX7_copy, Cond.instanceMethod yX7_copy, Cond.selects RX7 yX7_copy yX7_copy, Cond.code yX7_copy cX7_copy 9 (some .int), Cond.methodLink RL 162 yX6_load, Cond.instanceMethod yX6_load, Cond.selects RX6 yX6_load yX6_load, Cond.code yX6_load cX6_load 5 (some .int)]
def wsL_law_r46 : List Cond := [Cond.methodLink RX6 273 Lib.Math.min.name, Cond.methodLink RL 165 yX7_load, Cond.instanceMethod yX7_load, Cond.selects RX7 yX7_load yX7_load, Cond.code yX7_load cX7_load 3 (some .int), Cond.methodLink RL 166 yX6_judge, Cond.instanceMethod yX6_judge, Cond.selects RX6 yX6_judge yX6_judge, Cond.code yX6_judge cX6_judge 6 (some .int), Cond.methodLink RL 169 yX7_judge, Cond.instanceMethod yX7_judge, Cond.selects RX7 yX7_judge yX7_judge, Cond.code yX7_judge cX7_judge 5 (some .int), Cond.methodLink RL 170 yX6_image, Cond.instanceMethod yX6_image, Cond.selects RX6 yX6_image yX6_image, Cond.code yX6_image cX6_image 1 (some .int), Cond.fieldLink RX6 278 "NameBook" "isKept" "Z", Cond.methodLink RL 173 yX7_image, Cond.instanceMethod yX7_image, Cond.selects RX7 yX7_image yX7_image, Cond.code yX7_image cX7_image 1 (some .int), Cond.fieldLink RX7 334 "NameBookModel" "isKept" "Z", Cond.methodLink RL 174 yX6_undo]
def wsL_law_r47 : List Cond := [Cond.instanceMethod yX6_undo, Cond.selects RX6 yX6_undo yX6_undo, Cond.code yX6_undo cX6_undo 1 (some .int), Cond.methodLink RL 177 yX7_undo, Cond.instanceMethod yX7_undo, Cond.selects RX7 yX7_undo yX7_undo, Cond.code yX7_undo cX7_undo 1 (some .int), Cond.methodLink RL 178 yX6_tear, Cond.instanceMethod yX6_tear, Cond.selects RX6 yX6_tear yX6_tear, Cond.code yX6_tear cX6_tear 2 (some .int), Cond.methodLink RL 181 yX7_tear, Cond.instanceMethod yX7_tear, Cond.selects RX7 yX7_tear yX7_tear, Cond.code yX7_tear cX7_tear 2 (some .int), Cond.methodLink RL 182 yX6_count, Cond.instanceMethod yX6_count, Cond.selects RX6 yX6_count yX6_count, Cond.code yX6_count cX6_count 2 (some .int), Cond.fieldLink RX6 285 "NameBook$Tape" "length" "I", Cond.methodLink RL 185 yX7_count, Cond.instanceMethod yX7_count, Cond.selects RX7 yX7_count yX7_count, Cond.code yX7_count cX7_count 2 (some .int)]
def wsL_law_r48 : List Cond := [Cond.methodLink RL 186 yX6_status, Cond.instanceMethod yX6_status, Cond.selects RX6 yX6_status yX6_status, Cond.code yX6_status cX6_status 4 (some .int), Cond.methodLink RL 189 yX7_status, Cond.instanceMethod yX7_status, Cond.selects RX7 yX7_status yX7_status, Cond.code yX7_status cX7_status 4 (some .int), Cond.constantLong RX7 337 (-1)]
def wsL_law : List Cond := (wsL_law_r1 ++ (wsL_law_r2 ++ (wsL_law_r3 ++ (wsL_law_r4 ++ (wsL_law_r5 ++ (wsL_law_r6 ++ (wsL_law_r7 ++ (wsL_law_r8 ++ (wsL_law_r9 ++ (wsL_law_r10 ++ (wsL_law_r11 ++ (wsL_law_r12 ++ (wsL_law_r13 ++ (wsL_law_r14 ++ (wsL_law_r15 ++ (wsL_law_r16 ++ (wsL_law_r17 ++ (wsL_law_r18 ++ (wsL_law_r19 ++ (wsL_law_r20 ++ (wsL_law_r21 ++ (wsL_law_r22 ++ (wsL_law_r23 ++ (wsL_law_r24 ++ (wsL_law_r25 ++ (wsL_law_r26 ++ (wsL_law_r27 ++ (wsL_law_r28 ++ (wsL_law_r29 ++ (wsL_law_r30 ++ (wsL_law_r31 ++ (wsL_law_r32 ++ (wsL_law_r33 ++ (wsL_law_r34 ++ (wsL_law_r35 ++ (wsL_law_r36 ++ (wsL_law_r37 ++ (wsL_law_r38 ++ (wsL_law_r39 ++ (wsL_law_r40 ++ (wsL_law_r41 ++ (wsL_law_r42 ++ (wsL_law_r43 ++ (wsL_law_r44 ++ (wsL_law_r45 ++ (wsL_law_r46 ++ (wsL_law_r47 ++ wsL_law_r48))))))))))))))))))))))))))))))))))))))))))))))) ++ wsX60 ++ wsX70 ++ wsX00 ++ wsX50 ++ wsX10 ++ wsX40 ++ wsX30 ++ ([] : List Cond)
theorem wl_in {a : List Cond} {ps : List Nat} (h : a = ps.filterMap (fun i => lw_tbl[i]?)) : ∀ w ∈ a, w ∈ lw_tbl := by
  intro w hw
  rw [h] at hw
  obtain ⟨i, -, hi⟩ := List.mem_filterMap.mp hw
  exact List.mem_of_getElem? hi
theorem wl_app {a b : List Cond} (ha : ∀ w ∈ a, w ∈ lw_tbl) (hb : ∀ w ∈ b, w ∈ lw_tbl) : ∀ w ∈ a ++ b, w ∈ lw_tbl := fun w h => (List.mem_append.mp h).elim (ha w) (hb w)
set_option maxRecDepth 20000 in
theorem wl_wsL_law_r1 : wsL_law_r1 = [96, 97, 81, 880, 881, 88, 98, 99, 100, 101, 102, 103, 104, 105, 82, 287, 288, 289, 192, 193, 84, 290, 202, 203].filterMap (fun i => lw_tbl[i]?) := by decide +kernel
set_option maxRecDepth 20000 in
theorem wl_wsL_law_r2 : wsL_law_r2 = [85, 291, 241, 242, 86, 292, 267, 293, 191, 294, 269, 87, 106, 107, 108, 109, 116, 127, 131, 134, 137, 139, 142, 144].filterMap (fun i => lw_tbl[i]?) := by decide +kernel
set_option maxRecDepth 20000 in
theorem wl_wsL_law_r3 : wsL_law_r3 = [148, 152, 155, 158, 110, 111, 83, 112, 195, 196, 197, 198, 204, 205, 206, 207, 210, 211, 212, 213, 214, 208, 209, 244].filterMap (fun i => lw_tbl[i]?) := by decide +kernel
set_option maxRecDepth 20000 in
theorem wl_wsL_law_r4 : wsL_law_r4 = [245, 246, 247, 271, 272, 273, 274, 882, 883, 884, 885, 886, 887, 888, 889, 891, 892, 893, 894, 901, 902, 903, 315, 316].filterMap (fun i => lw_tbl[i]?) := by decide +kernel
set_option maxRecDepth 20000 in
theorem wl_wsL_law_r5 : wsL_law_r5 = [317, 318, 325, 128, 319, 320, 321, 322, 323, 324, 326, 328, 0, 329, 941, 942, 943, 944, 952, 957, 945, 946, 947, 948].filterMap (fun i => lw_tbl[i]?) := by decide +kernel
set_option maxRecDepth 20000 in
theorem wl_wsL_law_r6 : wsL_law_r6 = [949, 950, 951, 953, 955, 27, 956, 958, 960, 28, 961, 330, 331, 332, 333, 119, 339, 334, 335, 89, 336, 337, 340, 341].filterMap (fun i => lw_tbl[i]?) := by decide +kernel
set_option maxRecDepth 20000 in
theorem wl_wsL_law_r7 : wsL_law_r7 = [342, 343, 118, 962, 963, 964, 965, 970, 971, 966, 967, 968, 969, 972, 974, 29, 975, 344, 345, 346, 347, 135, 138, 140].filterMap (fun i => lw_tbl[i]?) := by decide +kernel
set_option maxRecDepth 20000 in
theorem wl_wsL_law_r8 : wsL_law_r8 = [143, 348, 349, 350, 351, 352, 353, 354, 355, 113, 356, 357, 358, 359, 360, 361, 362, 363, 364, 365, 366, 367, 976, 977].filterMap (fun i => lw_tbl[i]?) := by decide +kernel
set_option maxRecDepth 20000 in
theorem wl_wsL_law_r9 : wsL_law_r9 = [978, 979, 984, 980, 982, 30, 983, 985, 987, 31, 988, 989, 991, 32, 992, 993, 995, 33, 996, 997, 999, 34, 1000, 1001].filterMap (fun i => lw_tbl[i]?) := by decide +kernel
set_option maxRecDepth 20000 in
theorem wl_wsL_law_r10 : wsL_law_r10 = [1003, 35, 1004, 368, 369, 370, 371, 1005, 1006, 1007, 1008, 372, 373, 374, 375, 1009, 1010, 1011, 1012, 376, 377, 378, 379, 1013].filterMap (fun i => lw_tbl[i]?) := by decide +kernel
set_option maxRecDepth 20000 in
theorem wl_wsL_law_r11 : wsL_law_r11 = [1014, 1015, 1016, 380, 381, 382, 383, 133, 384, 385, 386, 387, 388, 389, 390, 391, 392, 393, 394, 395, 123, 396, 397, 398].filterMap (fun i => lw_tbl[i]?) := by decide +kernel
set_option maxRecDepth 20000 in
theorem wl_wsL_law_r12 : wsL_law_r12 = [399, 400, 401, 402, 403, 404, 405, 406, 407, 408, 410, 1, 411, 1017, 1018, 1019, 1020, 1021, 1023, 36, 1024, 1025, 1027, 37].filterMap (fun i => lw_tbl[i]?) := by decide +kernel
set_option maxRecDepth 20000 in
theorem wl_wsL_law_r13 : wsL_law_r13 = [1028, 1029, 1031, 38, 1032, 1033, 1035, 39, 1036, 1037, 1039, 40, 1040, 412, 413, 414, 415, 1041, 1042, 1043, 1044, 416, 417, 418].filterMap (fun i => lw_tbl[i]?) := by decide +kernel
set_option maxRecDepth 20000 in
theorem wl_wsL_law_r14 : wsL_law_r14 = [419, 1045, 1046, 1047, 1048, 420, 421, 422, 423, 125, 424, 425, 426, 427, 1049, 1050, 1051, 1052, 1053, 1054, 1055, 1056, 1057, 1059].filterMap (fun i => lw_tbl[i]?) := by decide +kernel
set_option maxRecDepth 20000 in
theorem wl_wsL_law_r15 : wsL_law_r15 = [41, 1060, 428, 429, 430, 431, 147, 151, 154, 157, 432, 433, 434, 435, 1061, 1062, 1063, 1064, 1069, 1065, 1067, 42, 1068, 436].filterMap (fun i => lw_tbl[i]?) := by decide +kernel
set_option maxRecDepth 20000 in
theorem wl_wsL_law_r16 : wsL_law_r16 = [437, 438, 439, 1070, 1071, 1072, 1073, 1074, 440, 441, 442, 443, 1075, 1076, 1077, 1078, 444, 445, 446, 447, 453, 448, 449, 450].filterMap (fun i => lw_tbl[i]?) := by decide +kernel
set_option maxRecDepth 20000 in
theorem wl_wsL_law_r17 : wsL_law_r17 = [451, 452, 1079, 1080, 1081, 1082, 1083, 1085, 43, 1086, 1087, 454, 455, 456, 457, 1088, 1089, 1090, 1091, 458, 459, 460, 461, 462].filterMap (fun i => lw_tbl[i]?) := by decide +kernel
set_option maxRecDepth 20000 in
theorem wl_wsL_law_r18 : wsL_law_r18 = [463, 464, 465, 466, 1092, 1093, 1094, 1095, 1096, 1097, 1099, 44, 1100, 1101, 467, 468, 469, 470, 471, 473, 2, 474, 115, 475].filterMap (fun i => lw_tbl[i]?) := by decide +kernel
set_option maxRecDepth 20000 in
theorem wl_wsL_law_r19 : wsL_law_r19 = [476, 477, 478, 479, 480, 481, 482, 114, 483, 484, 485, 486, 487, 489, 3, 490, 124, 146, 150, 153, 491, 493, 4, 494].filterMap (fun i => lw_tbl[i]?) := by decide +kernel
set_option maxRecDepth 20000 in
theorem wl_wsL_law_r20 : wsL_law_r20 = [141, 502, 503, 90, 504, 495, 496, 497, 498, 499, 500, 501, 505, 507, 5, 508, 156, 509, 511, 6, 512, 120, 136, 514].filterMap (fun i => lw_tbl[i]?) := by decide +kernel
set_option maxRecDepth 20000 in
theorem wl_wsL_law_r21 : wsL_law_r21 = [515, 516, 513, 517, 519, 7, 520, 521, 523, 8, 524, 132, 525, 526, 1102, 1103, 1104, 1105, 1106, 1107, 1109, 45, 1110, 1111].filterMap (fun i => lw_tbl[i]?) := by decide +kernel
set_option maxRecDepth 20000 in
theorem wl_wsL_law_r22 : wsL_law_r22 = [1113, 46, 1114, 1115, 1117, 47, 1118, 1119, 1121, 48, 1122, 1123, 1125, 49, 1126, 1127, 1129, 50, 1130, 1131, 1133, 51, 1134, 1135].filterMap (fun i => lw_tbl[i]?) := by decide +kernel
set_option maxRecDepth 20000 in
theorem wl_wsL_law_r23 : wsL_law_r23 = [1137, 52, 1138, 1139, 1140, 1141, 1142, 1144, 53, 1145, 1146, 1148, 54, 1149, 1150, 1152, 55, 1153, 527, 528, 529, 530, 531, 533].filterMap (fun i => lw_tbl[i]?) := by decide +kernel
set_option maxRecDepth 20000 in
theorem wl_wsL_law_r24 : wsL_law_r24 = [9, 534, 535, 536, 537, 538, 539, 541, 540, 91, 542, 543, 544, 545, 546, 547, 548, 549, 550, 551, 552, 553, 554, 555].filterMap (fun i => lw_tbl[i]?) := by decide +kernel
set_option maxRecDepth 20000 in
theorem wl_wsL_law_r25 : wsL_law_r25 = [556, 557, 558, 1154, 1155, 1156, 1157, 1158, 1159, 1160, 1161, 1162, 1163, 1165, 56, 1166, 1167, 1169, 57, 1170, 1171, 1173, 58, 1174].filterMap (fun i => lw_tbl[i]?) := by decide +kernel
set_option maxRecDepth 20000 in
theorem wl_wsL_law_r26 : wsL_law_r26 = [1175, 1177, 59, 1178, 559, 560, 561, 562, 563, 1179, 1180, 1181, 1182, 1187, 1183, 1185, 60, 1186, 564, 565, 566, 567, 568, 1188].filterMap (fun i => lw_tbl[i]?) := by decide +kernel
set_option maxRecDepth 20000 in
theorem wl_wsL_law_r27 : wsL_law_r27 = [1189, 1190, 1191, 569, 570, 571, 572, 573, 574, 575, 576, 577, 579, 10, 580, 1192, 1193, 1194, 1195, 1196, 1198, 61, 1199, 1200].filterMap (fun i => lw_tbl[i]?) := by decide +kernel
set_option maxRecDepth 20000 in
theorem wl_wsL_law_r28 : wsL_law_r28 = [1202, 62, 1203, 581, 582, 583, 584, 1204, 1205, 1206, 1207, 585, 586, 587, 588, 217, 219, 589, 591, 11, 592, 597, 593, 594].filterMap (fun i => lw_tbl[i]?) := by decide +kernel
set_option maxRecDepth 20000 in
theorem wl_wsL_law_r29 : wsL_law_r29 = [595, 596, 215, 122, 145, 149, 598, 599, 600, 601, 218, 216, 602, 604, 12, 605, 624, 606, 607, 608, 609, 129, 610, 611].filterMap (fun i => lw_tbl[i]?) := by decide +kernel
set_option maxRecDepth 20000 in
theorem wl_wsL_law_r30 : wsL_law_r30 = [612, 613, 614, 615, 616, 617, 619, 13, 620, 621, 622, 623, 625, 626, 627, 628, 629, 630, 631, 633, 14, 634, 637, 635].filterMap (fun i => lw_tbl[i]?) := by decide +kernel
set_option maxRecDepth 20000 in
theorem wl_wsL_law_r31 : wsL_law_r31 = [636, 638, 1208, 1209, 1210, 1211, 1212, 1214, 63, 1215, 1216, 1225, 1217, 1219, 64, 1220, 1221, 1223, 65, 1224, 1226, 1228, 66, 1229].filterMap (fun i => lw_tbl[i]?) := by decide +kernel
set_option maxRecDepth 20000 in
theorem wl_wsL_law_r32 : wsL_law_r32 = [639, 640, 641, 642, 643, 644, 645, 646, 1230, 1231, 1232, 1233, 647, 648, 649, 650, 1234, 1235, 1236, 1237, 651, 652, 653, 654].filterMap (fun i => lw_tbl[i]?) := by decide +kernel
set_option maxRecDepth 20000 in
theorem wl_wsL_law_r33 : wsL_law_r33 = [1238, 1239, 1240, 1241, 1242, 1244, 67, 1245, 655, 656, 657, 658, 1246, 1247, 1248, 1249, 659, 660, 661, 662, 117, 1250, 1251, 1252].filterMap (fun i => lw_tbl[i]?) := by decide +kernel
set_option maxRecDepth 20000 in
theorem wl_wsL_law_r34 : wsL_law_r34 = [1253, 663, 664, 665, 666, 667, 668, 669, 670, 248, 671, 672, 673, 674, 1254, 1255, 1256, 1257, 895, 675, 676, 677, 678, 679].filterMap (fun i => lw_tbl[i]?) := by decide +kernel
set_option maxRecDepth 20000 in
theorem wl_wsL_law_r35 : wsL_law_r35 = [680, 681, 682, 1258, 1259, 1260, 1261, 683, 684, 685, 686, 687, 688, 689, 690, 252, 250, 251, 691, 693, 15, 694, 695, 697].filterMap (fun i => lw_tbl[i]?) := by decide +kernel
set_option maxRecDepth 20000 in
theorem wl_wsL_law_r36 : wsL_law_r36 = [16, 698, 699, 701, 17, 702, 703, 705, 18, 706, 253, 707, 708, 710, 19, 711, 126, 121, 713, 715, 20, 716, 717, 719].filterMap (fun i => lw_tbl[i]?) := by decide +kernel
set_option maxRecDepth 20000 in
theorem wl_wsL_law_r37 : wsL_law_r37 = [21, 720, 721, 722, 723, 92, 724, 1388, 725, 726, 727, 728, 729, 1389, 731, 732, 733, 734, 735, 736, 737, 738, 739, 740].filterMap (fun i => lw_tbl[i]?) := by decide +kernel
set_option maxRecDepth 20000 in
theorem wl_wsL_law_r38 : wsL_law_r38 = [93, 741, 742, 743, 744, 745, 747, 748, 94, 749, 750, 751, 95, 752, 753, 754, 755, 756, 757, 758, 759, 760, 761, 762].filterMap (fun i => lw_tbl[i]?) := by decide +kernel
set_option maxRecDepth 20000 in
theorem wl_wsL_law_r39 : wsL_law_r39 = [763, 765, 767, 769, 771, 22, 772, 130, 773, 775, 23, 776, 779, 781, 24, 782, 786, 787, 788, 790, 25, 791, 799, 801].filterMap (fun i => lw_tbl[i]?) := by decide +kernel
set_option maxRecDepth 20000 in
theorem wl_wsL_law_r40 : wsL_law_r40 = [26, 802, 805, 1262, 1263, 1264, 1265, 898, 900, 896, 897, 1266, 1268, 68, 1269, 899, 1270, 1272, 69, 1273, 1274, 1276, 70, 1277].filterMap (fun i => lw_tbl[i]?) := by decide +kernel
set_option maxRecDepth 20000 in
theorem wl_wsL_law_r41 : wsL_law_r41 = [1278, 1280, 71, 1281, 1283, 1285, 72, 1286, 1287, 1288, 1296, 1298, 73, 1299, 1300, 1302, 74, 1303, 1304, 1306, 75, 1307, 1309, 1311].filterMap (fun i => lw_tbl[i]?) := by decide +kernel
set_option maxRecDepth 20000 in
theorem wl_wsL_law_r42 : wsL_law_r42 = [76, 1312, 1313, 1315, 77, 1316, 1319, 1321, 78, 1322, 1327, 1329, 79, 1330, 807, 808, 809, 810, 159, 1331, 1332, 1333, 1334, 811].filterMap (fun i => lw_tbl[i]?) := by decide +kernel
set_option maxRecDepth 20000 in
theorem wl_wsL_law_r43 : wsL_law_r43 = [812, 813, 814, 815, 817, 816, 1335, 1336, 1337, 1338, 1339, 1343, 1340, 1341, 1342, 818, 819, 820, 821, 822, 823, 824, 825, 826].filterMap (fun i => lw_tbl[i]?) := by decide +kernel
set_option maxRecDepth 20000 in
theorem wl_wsL_law_r44 : wsL_law_r44 = [827, 828, 276, 278, 829, 1344, 1345, 1346, 1347, 1348, 1349, 1350, 830, 831, 832, 833, 279, 834, 835, 836, 837, 838, 839, 840].filterMap (fun i => lw_tbl[i]?) := by decide +kernel
set_option maxRecDepth 20000 in
theorem wl_wsL_law_r45 : wsL_law_r45 = [841, 1351, 1352, 1353, 1354, 842, 843, 844, 845, 277, 275, 850, 846, 847, 848, 849, 1355, 1356, 1357, 1358, 851, 852, 853, 854].filterMap (fun i => lw_tbl[i]?) := by decide +kernel
set_option maxRecDepth 20000 in
theorem wl_wsL_law_r46 : wsL_law_r46 = [855, 1359, 1360, 1361, 1362, 856, 857, 858, 859, 1363, 1364, 1365, 1366, 860, 861, 862, 863, 295, 1367, 1368, 1369, 1370, 890, 864].filterMap (fun i => lw_tbl[i]?) := by decide +kernel
set_option maxRecDepth 20000 in
theorem wl_wsL_law_r47 : wsL_law_r47 = [865, 866, 867, 1371, 1372, 1373, 1374, 868, 869, 870, 871, 1375, 1376, 1377, 1378, 872, 873, 874, 875, 249, 1379, 1380, 1381, 1382].filterMap (fun i => lw_tbl[i]?) := by decide +kernel
set_option maxRecDepth 20000 in
theorem wl_wsL_law_r48 : wsL_law_r48 = [876, 877, 878, 879, 1383, 1384, 1385, 1386, 1387].filterMap (fun i => lw_tbl[i]?) := by decide +kernel
set_option maxRecDepth 20000 in
theorem wl_wsX60 : wsX60 = [296, 298, 300, 302, 304, 306, 308, 310, 312].filterMap (fun i => lw_tbl[i]?) := by decide +kernel
set_option maxRecDepth 20000 in
theorem wl_wsX70 : wsX70 = [904, 906, 908, 910, 912, 914, 916, 918, 920, 922, 924, 926, 928, 930, 932, 934, 936, 938].filterMap (fun i => lw_tbl[i]?) := by decide +kernel
set_option maxRecDepth 20000 in
theorem wl_wsX00 : wsX00 = [160, 162, 164, 166, 168, 170, 172, 174, 176, 178, 180, 182, 184, 186, 188].filterMap (fun i => lw_tbl[i]?) := by decide +kernel
set_option maxRecDepth 20000 in
theorem wl_wsX50 : wsX50 = [199].filterMap (fun i => lw_tbl[i]?) := by decide +kernel
set_option maxRecDepth 20000 in
theorem wl_wsX10 : wsX10 = [220, 222, 224, 226, 228, 230, 232, 234, 236, 238].filterMap (fun i => lw_tbl[i]?) := by decide +kernel
set_option maxRecDepth 20000 in
theorem wl_wsX40 : wsX40 = [254, 256, 258, 260, 262, 264].filterMap (fun i => lw_tbl[i]?) := by decide +kernel
set_option maxRecDepth 20000 in
theorem wl_wsX30 : wsX30 = [280, 282, 284].filterMap (fun i => lw_tbl[i]?) := by decide +kernel
set_option maxRecDepth 20000 in
theorem wsL_law_in : ∀ w ∈ wsL_law, w ∈ lw_tbl := wl_app (wl_app (wl_app (wl_app (wl_app (wl_app (wl_app (wl_app (wl_app (wl_in wl_wsL_law_r1) (wl_app (wl_in wl_wsL_law_r2) (wl_app (wl_in wl_wsL_law_r3) (wl_app (wl_in wl_wsL_law_r4) (wl_app (wl_in wl_wsL_law_r5) (wl_app (wl_in wl_wsL_law_r6) (wl_app (wl_in wl_wsL_law_r7) (wl_app (wl_in wl_wsL_law_r8) (wl_app (wl_in wl_wsL_law_r9) (wl_app (wl_in wl_wsL_law_r10) (wl_app (wl_in wl_wsL_law_r11) (wl_app (wl_in wl_wsL_law_r12) (wl_app (wl_in wl_wsL_law_r13) (wl_app (wl_in wl_wsL_law_r14) (wl_app (wl_in wl_wsL_law_r15) (wl_app (wl_in wl_wsL_law_r16) (wl_app (wl_in wl_wsL_law_r17) (wl_app (wl_in wl_wsL_law_r18) (wl_app (wl_in wl_wsL_law_r19) (wl_app (wl_in wl_wsL_law_r20) (wl_app (wl_in wl_wsL_law_r21) (wl_app (wl_in wl_wsL_law_r22) (wl_app (wl_in wl_wsL_law_r23) (wl_app (wl_in wl_wsL_law_r24) (wl_app (wl_in wl_wsL_law_r25) (wl_app (wl_in wl_wsL_law_r26) (wl_app (wl_in wl_wsL_law_r27) (wl_app (wl_in wl_wsL_law_r28) (wl_app (wl_in wl_wsL_law_r29) (wl_app (wl_in wl_wsL_law_r30) (wl_app (wl_in wl_wsL_law_r31) (wl_app (wl_in wl_wsL_law_r32) (wl_app (wl_in wl_wsL_law_r33) (wl_app (wl_in wl_wsL_law_r34) (wl_app (wl_in wl_wsL_law_r35) (wl_app (wl_in wl_wsL_law_r36) (wl_app (wl_in wl_wsL_law_r37) (wl_app (wl_in wl_wsL_law_r38) (wl_app (wl_in wl_wsL_law_r39) (wl_app (wl_in wl_wsL_law_r40) (wl_app (wl_in wl_wsL_law_r41) (wl_app (wl_in wl_wsL_law_r42) (wl_app (wl_in wl_wsL_law_r43) (wl_app (wl_in wl_wsL_law_r44) (wl_app (wl_in wl_wsL_law_r45) (wl_app (wl_in wl_wsL_law_r46) (wl_app (wl_in wl_wsL_law_r47) (wl_in wl_wsL_law_r48)))))))))))))))))))))))))))))))))))))))))))))))) (wl_in wl_wsX60)) (wl_in wl_wsX70)) (wl_in wl_wsX00)) (wl_in wl_wsX50)) (wl_in wl_wsX10)) (wl_in wl_wsX40)) (wl_in wl_wsX30)) (fun _ h => absurd h List.not_mem_nil)
theorem inlX0 : ∀ w ∈ wsX00, w ∈ wsL_law := fun _ h => List.mem_append_left _ (List.mem_append_left _ (List.mem_append_left _ (List.mem_append_left _ (List.mem_append_left _ (List.mem_append_right _ h)))))
theorem inlX1 : ∀ w ∈ wsX10, w ∈ wsL_law := fun _ h => List.mem_append_left _ (List.mem_append_left _ (List.mem_append_left _ (List.mem_append_right _ h)))
theorem inlX3 : ∀ w ∈ wsX30, w ∈ wsL_law := fun _ h => List.mem_append_left _ (List.mem_append_right _ h)
theorem inlX4 : ∀ w ∈ wsX40, w ∈ wsL_law := fun _ h => List.mem_append_left _ (List.mem_append_left _ (List.mem_append_right _ h))
theorem inlX5 : ∀ w ∈ wsX50, w ∈ wsL_law := fun _ h => List.mem_append_left _ (List.mem_append_left _ (List.mem_append_left _ (List.mem_append_left _ (List.mem_append_right _ h))))
theorem inlX6 : ∀ w ∈ wsX60, w ∈ wsL_law := fun _ h => List.mem_append_left _ (List.mem_append_left _ (List.mem_append_left _ (List.mem_append_left _ (List.mem_append_left _ (List.mem_append_left _ (List.mem_append_left _ (List.mem_append_right _ h)))))))
theorem inlX7 : ∀ w ∈ wsX70, w ∈ wsL_law := fun _ h => List.mem_append_left _ (List.mem_append_left _ (List.mem_append_left _ (List.mem_append_left _ (List.mem_append_left _ (List.mem_append_left _ (List.mem_append_right _ h))))))
abbrev vwCl : List vw_C := [(RX0, TX0, 15), (RX1, TX1, 10), (RX3, TX3, 3), (RX4, TX4, 6), (RX5, TX5, 1), (RX6, TX6, 9), (RX7, TX7, 18)]
end
section
theorem dX0_init_0 : decode cX0_init 0 = .ok (.aload_n 0, 1) := by decide +kernel
theorem dX0_init_1 : decode cX0_init 1 = .ok (.invokespecial 3, 3) := by decide +kernel
theorem dX0_init_4 : decode cX0_init 4 = .ok (.aload_n 0, 1) := by decide +kernel
theorem dX0_init_5 : decode cX0_init 5 = .ok (.iconst 1, 1) := by decide +kernel
theorem dX0_init_6 : decode cX0_init 6 = .ok (.putfield 9, 3) := by decide +kernel
theorem dX0_init_9 : decode cX0_init 9 = .ok (.aload_n 0, 1) := by decide +kernel
theorem dX0_init_10 : decode cX0_init 10 = .ok (.bipush 8, 2) := by decide +kernel
theorem dX0_init_12 : decode cX0_init 12 = .ok (.newarray .int, 2) := by decide +kernel
theorem dX0_init_14 : decode cX0_init 14 = .ok (.putfield 15, 3) := by decide +kernel
theorem dX0_init_17 : decode cX0_init 17 = .ok (.aload_n 0, 1) := by decide +kernel
theorem dX0_init_18 : decode cX0_init 18 = .ok (.bipush 8, 2) := by decide +kernel
theorem dX0_init_20 : decode cX0_init 20 = .ok (.newarray .int, 2) := by decide +kernel
theorem dX0_init_22 : decode cX0_init 22 = .ok (.putfield 19, 3) := by decide +kernel
theorem dX0_init_25 : decode cX0_init 25 = .ok (.aload_n 0, 1) := by decide +kernel
theorem dX0_init_26 : decode cX0_init 26 = .ok (.bipush 20, 2) := by decide +kernel
theorem dX0_init_28 : decode cX0_init 28 = .ok (.newarray .int, 2) := by decide +kernel
theorem dX0_init_30 : decode cX0_init 30 = .ok (.putfield 22, 3) := by decide +kernel
theorem dX0_init_33 : decode cX0_init 33 = .ok (.aload_n 0, 1) := by decide +kernel
theorem dX0_init_34 : decode cX0_init 34 = .ok (.bipush 20, 2) := by decide +kernel
theorem dX0_init_36 : decode cX0_init 36 = .ok (.newarray .int, 2) := by decide +kernel
theorem dX0_init_38 : decode cX0_init 38 = .ok (.putfield 25, 3) := by decide +kernel
theorem dX0_init_41 : decode cX0_init 41 = .ok (.aload_n 0, 1) := by decide +kernel
theorem dX0_init_42 : decode cX0_init 42 = .ok (.bipush 20, 2) := by decide +kernel
theorem dX0_init_44 : decode cX0_init 44 = .ok (.newarray .int, 2) := by decide +kernel
theorem dX0_init_46 : decode cX0_init 46 = .ok (.putfield 28, 3) := by decide +kernel
theorem dX0_init_49 : decode cX0_init 49 = .ok (.aload_n 0, 1) := by decide +kernel
theorem dX0_init_50 : decode cX0_init 50 = .ok (.bipush 20, 2) := by decide +kernel
theorem dX0_init_52 : decode cX0_init 52 = .ok (.newarray .int, 2) := by decide +kernel
theorem dX0_init_54 : decode cX0_init 54 = .ok (.putfield 31, 3) := by decide +kernel
theorem dX0_init_57 : decode cX0_init 57 = .ok (.aload_n 0, 1) := by decide +kernel
theorem dX0_init_58 : decode cX0_init 58 = .ok (.bipush 8, 2) := by decide +kernel
theorem dX0_init_60 : decode cX0_init 60 = .ok (.newarray .int, 2) := by decide +kernel
theorem dX0_init_62 : decode cX0_init 62 = .ok (.putfield 34, 3) := by decide +kernel
theorem dX0_init_65 : decode cX0_init 65 = .ok (.aload_n 0, 1) := by decide +kernel
theorem dX0_init_66 : decode cX0_init 66 = .ok (.bipush 8, 2) := by decide +kernel
theorem dX0_init_68 : decode cX0_init 68 = .ok (.newarray .int, 2) := by decide +kernel
theorem dX0_init_70 : decode cX0_init 70 = .ok (.putfield 37, 3) := by decide +kernel
theorem dX0_init_73 : decode cX0_init 73 = .ok (.aload_n 0, 1) := by decide +kernel
theorem dX0_init_74 : decode cX0_init 74 = .ok (.bipush 8, 2) := by decide +kernel
theorem dX0_init_76 : decode cX0_init 76 = .ok (.newarray .int, 2) := by decide +kernel
theorem dX0_init_78 : decode cX0_init 78 = .ok (.putfield 40, 3) := by decide +kernel
theorem dX0_init_81 : decode cX0_init 81 = .ok (.aload_n 0, 1) := by decide +kernel
theorem dX0_init_82 : decode cX0_init 82 = .ok (.bipush 8, 2) := by decide +kernel
theorem dX0_init_84 : decode cX0_init 84 = .ok (.newarray .int, 2) := by decide +kernel
theorem dX0_init_86 : decode cX0_init 86 = .ok (.putfield 43, 3) := by decide +kernel
theorem dX0_init_89 : decode cX0_init 89 = .ok (.aload_n 0, 1) := by decide +kernel
theorem dX0_init_90 : decode cX0_init 90 = .ok (.bipush 10, 2) := by decide +kernel
theorem dX0_init_92 : decode cX0_init 92 = .ok (.newarray .int, 2) := by decide +kernel
theorem dX0_init_94 : decode cX0_init 94 = .ok (.putfield 46, 3) := by decide +kernel
theorem dX0_init_97 : decode cX0_init 97 = .ok (.aload_n 0, 1) := by decide +kernel
theorem dX0_init_98 : decode cX0_init 98 = .ok (.getfield 15, 3) := by decide +kernel
theorem dX0_init_101 : decode cX0_init 101 = .ok (.bipush 10, 2) := by decide +kernel
theorem dX0_init_103 : decode cX0_init 103 = .ok (.invokestatic 49, 3) := by decide +kernel
theorem dX0_init_106 : decode cX0_init 106 = .ok (.aload_n 0, 1) := by decide +kernel
theorem dX0_init_107 : decode cX0_init 107 = .ok (.getfield 46, 3) := by decide +kernel
theorem dX0_init_110 : decode cX0_init 110 = .ok (.iconst (-1), 1) := by decide +kernel
theorem dX0_init_111 : decode cX0_init 111 = .ok (.invokestatic 49, 3) := by decide +kernel
theorem dX0_init_114 : decode cX0_init 114 = .ok (.return_, 1) := by decide +kernel
theorem dX0_setTo_0 : decode cX0_setTo 0 = .ok (.aload_n 0, 1) := by decide +kernel
theorem dX0_setTo_1 : decode cX0_setTo 1 = .ok (.aload_n 1, 1) := by decide +kernel
theorem dX0_setTo_2 : decode cX0_setTo 2 = .ok (.getfield 55, 3) := by decide +kernel
theorem dX0_setTo_5 : decode cX0_setTo 5 = .ok (.putfield 55, 3) := by decide +kernel
theorem dX0_setTo_8 : decode cX0_setTo 8 = .ok (.aload_n 0, 1) := by decide +kernel
theorem dX0_setTo_9 : decode cX0_setTo 9 = .ok (.aload_n 1, 1) := by decide +kernel
theorem dX0_setTo_10 : decode cX0_setTo 10 = .ok (.getfield 9, 3) := by decide +kernel
theorem dX0_setTo_13 : decode cX0_setTo 13 = .ok (.putfield 9, 3) := by decide +kernel
theorem dX0_setTo_16 : decode cX0_setTo 16 = .ok (.aload_n 0, 1) := by decide +kernel
theorem dX0_setTo_17 : decode cX0_setTo 17 = .ok (.aload_n 1, 1) := by decide +kernel
theorem dX0_setTo_18 : decode cX0_setTo 18 = .ok (.getfield 58, 3) := by decide +kernel
theorem dX0_setTo_21 : decode cX0_setTo 21 = .ok (.putfield 58, 3) := by decide +kernel
theorem dX0_setTo_24 : decode cX0_setTo 24 = .ok (.aload_n 0, 1) := by decide +kernel
theorem dX0_setTo_25 : decode cX0_setTo 25 = .ok (.aload_n 1, 1) := by decide +kernel
theorem dX0_setTo_26 : decode cX0_setTo 26 = .ok (.getfield 61, 3) := by decide +kernel
theorem dX0_setTo_29 : decode cX0_setTo 29 = .ok (.putfield 61, 3) := by decide +kernel
theorem dX0_setTo_32 : decode cX0_setTo 32 = .ok (.aload_n 1, 1) := by decide +kernel
theorem dX0_setTo_33 : decode cX0_setTo 33 = .ok (.getfield 15, 3) := by decide +kernel
theorem dX0_setTo_36 : decode cX0_setTo 36 = .ok (.iconst 0, 1) := by decide +kernel
theorem dX0_setTo_37 : decode cX0_setTo 37 = .ok (.aload_n 0, 1) := by decide +kernel
theorem dX0_setTo_38 : decode cX0_setTo 38 = .ok (.getfield 15, 3) := by decide +kernel
theorem dX0_setTo_41 : decode cX0_setTo 41 = .ok (.iconst 0, 1) := by decide +kernel
theorem dX0_setTo_42 : decode cX0_setTo 42 = .ok (.bipush 8, 2) := by decide +kernel
theorem dX0_setTo_44 : decode cX0_setTo 44 = .ok (.invokestatic 64, 3) := by decide +kernel
theorem dX0_setTo_47 : decode cX0_setTo 47 = .ok (.aload_n 1, 1) := by decide +kernel
theorem dX0_setTo_48 : decode cX0_setTo 48 = .ok (.getfield 19, 3) := by decide +kernel
theorem dX0_setTo_51 : decode cX0_setTo 51 = .ok (.iconst 0, 1) := by decide +kernel
theorem dX0_setTo_52 : decode cX0_setTo 52 = .ok (.aload_n 0, 1) := by decide +kernel
theorem dX0_setTo_53 : decode cX0_setTo 53 = .ok (.getfield 19, 3) := by decide +kernel
theorem dX0_setTo_56 : decode cX0_setTo 56 = .ok (.iconst 0, 1) := by decide +kernel
theorem dX0_setTo_57 : decode cX0_setTo 57 = .ok (.bipush 8, 2) := by decide +kernel
theorem dX0_setTo_59 : decode cX0_setTo 59 = .ok (.invokestatic 64, 3) := by decide +kernel
theorem dX0_setTo_62 : decode cX0_setTo 62 = .ok (.aload_n 1, 1) := by decide +kernel
theorem dX0_setTo_63 : decode cX0_setTo 63 = .ok (.getfield 22, 3) := by decide +kernel
theorem dX0_setTo_66 : decode cX0_setTo 66 = .ok (.iconst 0, 1) := by decide +kernel
theorem dX0_setTo_67 : decode cX0_setTo 67 = .ok (.aload_n 0, 1) := by decide +kernel
theorem dX0_setTo_68 : decode cX0_setTo 68 = .ok (.getfield 22, 3) := by decide +kernel
theorem dX0_setTo_71 : decode cX0_setTo 71 = .ok (.iconst 0, 1) := by decide +kernel
theorem dX0_setTo_72 : decode cX0_setTo 72 = .ok (.bipush 20, 2) := by decide +kernel
theorem dX0_setTo_74 : decode cX0_setTo 74 = .ok (.invokestatic 64, 3) := by decide +kernel
theorem dX0_setTo_77 : decode cX0_setTo 77 = .ok (.aload_n 1, 1) := by decide +kernel
theorem dX0_setTo_78 : decode cX0_setTo 78 = .ok (.getfield 25, 3) := by decide +kernel
theorem dX0_setTo_81 : decode cX0_setTo 81 = .ok (.iconst 0, 1) := by decide +kernel
theorem dX0_setTo_82 : decode cX0_setTo 82 = .ok (.aload_n 0, 1) := by decide +kernel
theorem dX0_setTo_83 : decode cX0_setTo 83 = .ok (.getfield 25, 3) := by decide +kernel
theorem dX0_setTo_86 : decode cX0_setTo 86 = .ok (.iconst 0, 1) := by decide +kernel
theorem dX0_setTo_87 : decode cX0_setTo 87 = .ok (.bipush 20, 2) := by decide +kernel
theorem dX0_setTo_89 : decode cX0_setTo 89 = .ok (.invokestatic 64, 3) := by decide +kernel
theorem dX0_setTo_92 : decode cX0_setTo 92 = .ok (.aload_n 1, 1) := by decide +kernel
theorem dX0_setTo_93 : decode cX0_setTo 93 = .ok (.getfield 28, 3) := by decide +kernel
theorem dX0_setTo_96 : decode cX0_setTo 96 = .ok (.iconst 0, 1) := by decide +kernel
theorem dX0_setTo_97 : decode cX0_setTo 97 = .ok (.aload_n 0, 1) := by decide +kernel
theorem dX0_setTo_98 : decode cX0_setTo 98 = .ok (.getfield 28, 3) := by decide +kernel
theorem dX0_setTo_101 : decode cX0_setTo 101 = .ok (.iconst 0, 1) := by decide +kernel
theorem dX0_setTo_102 : decode cX0_setTo 102 = .ok (.bipush 20, 2) := by decide +kernel
theorem dX0_setTo_104 : decode cX0_setTo 104 = .ok (.invokestatic 64, 3) := by decide +kernel
theorem dX0_setTo_107 : decode cX0_setTo 107 = .ok (.aload_n 1, 1) := by decide +kernel
theorem dX0_setTo_108 : decode cX0_setTo 108 = .ok (.getfield 31, 3) := by decide +kernel
theorem dX0_setTo_111 : decode cX0_setTo 111 = .ok (.iconst 0, 1) := by decide +kernel
theorem dX0_setTo_112 : decode cX0_setTo 112 = .ok (.aload_n 0, 1) := by decide +kernel
theorem dX0_setTo_113 : decode cX0_setTo 113 = .ok (.getfield 31, 3) := by decide +kernel
theorem dX0_setTo_116 : decode cX0_setTo 116 = .ok (.iconst 0, 1) := by decide +kernel
theorem dX0_setTo_117 : decode cX0_setTo 117 = .ok (.bipush 20, 2) := by decide +kernel
theorem dX0_setTo_119 : decode cX0_setTo 119 = .ok (.invokestatic 64, 3) := by decide +kernel
theorem dX0_setTo_122 : decode cX0_setTo 122 = .ok (.aload_n 1, 1) := by decide +kernel
theorem dX0_setTo_123 : decode cX0_setTo 123 = .ok (.getfield 34, 3) := by decide +kernel
theorem dX0_setTo_126 : decode cX0_setTo 126 = .ok (.iconst 0, 1) := by decide +kernel
theorem dX0_setTo_127 : decode cX0_setTo 127 = .ok (.aload_n 0, 1) := by decide +kernel
theorem dX0_setTo_128 : decode cX0_setTo 128 = .ok (.getfield 34, 3) := by decide +kernel
theorem dX0_setTo_131 : decode cX0_setTo 131 = .ok (.iconst 0, 1) := by decide +kernel
theorem dX0_setTo_132 : decode cX0_setTo 132 = .ok (.bipush 8, 2) := by decide +kernel
theorem dX0_setTo_134 : decode cX0_setTo 134 = .ok (.invokestatic 64, 3) := by decide +kernel
theorem dX0_setTo_137 : decode cX0_setTo 137 = .ok (.aload_n 1, 1) := by decide +kernel
theorem dX0_setTo_138 : decode cX0_setTo 138 = .ok (.getfield 37, 3) := by decide +kernel
theorem dX0_setTo_141 : decode cX0_setTo 141 = .ok (.iconst 0, 1) := by decide +kernel
theorem dX0_setTo_142 : decode cX0_setTo 142 = .ok (.aload_n 0, 1) := by decide +kernel
theorem dX0_setTo_143 : decode cX0_setTo 143 = .ok (.getfield 37, 3) := by decide +kernel
theorem dX0_setTo_146 : decode cX0_setTo 146 = .ok (.iconst 0, 1) := by decide +kernel
theorem dX0_setTo_147 : decode cX0_setTo 147 = .ok (.bipush 8, 2) := by decide +kernel
theorem dX0_setTo_149 : decode cX0_setTo 149 = .ok (.invokestatic 64, 3) := by decide +kernel
theorem dX0_setTo_152 : decode cX0_setTo 152 = .ok (.aload_n 1, 1) := by decide +kernel
theorem dX0_setTo_153 : decode cX0_setTo 153 = .ok (.getfield 40, 3) := by decide +kernel
theorem dX0_setTo_156 : decode cX0_setTo 156 = .ok (.iconst 0, 1) := by decide +kernel
theorem dX0_setTo_157 : decode cX0_setTo 157 = .ok (.aload_n 0, 1) := by decide +kernel
theorem dX0_setTo_158 : decode cX0_setTo 158 = .ok (.getfield 40, 3) := by decide +kernel
theorem dX0_setTo_161 : decode cX0_setTo 161 = .ok (.iconst 0, 1) := by decide +kernel
theorem dX0_setTo_162 : decode cX0_setTo 162 = .ok (.bipush 8, 2) := by decide +kernel
theorem dX0_setTo_164 : decode cX0_setTo 164 = .ok (.invokestatic 64, 3) := by decide +kernel
theorem dX0_setTo_167 : decode cX0_setTo 167 = .ok (.aload_n 1, 1) := by decide +kernel
theorem dX0_setTo_168 : decode cX0_setTo 168 = .ok (.getfield 43, 3) := by decide +kernel
theorem dX0_setTo_171 : decode cX0_setTo 171 = .ok (.iconst 0, 1) := by decide +kernel
theorem dX0_setTo_172 : decode cX0_setTo 172 = .ok (.aload_n 0, 1) := by decide +kernel
theorem dX0_setTo_173 : decode cX0_setTo 173 = .ok (.getfield 43, 3) := by decide +kernel
theorem dX0_setTo_176 : decode cX0_setTo 176 = .ok (.iconst 0, 1) := by decide +kernel
theorem dX0_setTo_177 : decode cX0_setTo 177 = .ok (.bipush 8, 2) := by decide +kernel
theorem dX0_setTo_179 : decode cX0_setTo 179 = .ok (.invokestatic 64, 3) := by decide +kernel
theorem dX0_setTo_182 : decode cX0_setTo 182 = .ok (.aload_n 1, 1) := by decide +kernel
theorem dX0_setTo_183 : decode cX0_setTo 183 = .ok (.getfield 46, 3) := by decide +kernel
theorem dX0_setTo_186 : decode cX0_setTo 186 = .ok (.iconst 0, 1) := by decide +kernel
theorem dX0_setTo_187 : decode cX0_setTo 187 = .ok (.aload_n 0, 1) := by decide +kernel
theorem dX0_setTo_188 : decode cX0_setTo 188 = .ok (.getfield 46, 3) := by decide +kernel
theorem dX0_setTo_191 : decode cX0_setTo 191 = .ok (.iconst 0, 1) := by decide +kernel
theorem dX0_setTo_192 : decode cX0_setTo 192 = .ok (.bipush 10, 2) := by decide +kernel
theorem dX0_setTo_194 : decode cX0_setTo 194 = .ok (.invokestatic 64, 3) := by decide +kernel
theorem dX0_setTo_197 : decode cX0_setTo 197 = .ok (.return_, 1) := by decide +kernel
theorem dX0_draw_0 : decode cX0_draw 0 = .ok (.aload_n 0, 1) := by decide +kernel
theorem dX0_draw_1 : decode cX0_draw 1 = .ok (.aload_n 0, 1) := by decide +kernel
theorem dX0_draw_2 : decode cX0_draw 2 = .ok (.getfield 9, 3) := by decide +kernel
theorem dX0_draw_5 : decode cX0_draw 5 = .ok (.ldc 70, 2) := by decide +kernel
theorem dX0_draw_7 : decode cX0_draw 7 = .ok (.imul, 1) := by decide +kernel
theorem dX0_draw_8 : decode cX0_draw 8 = .ok (.sipush 12345, 3) := by decide +kernel
theorem dX0_draw_11 : decode cX0_draw 11 = .ok (.iadd, 1) := by decide +kernel
theorem dX0_draw_12 : decode cX0_draw 12 = .ok (.putfield 9, 3) := by decide +kernel
theorem dX0_draw_15 : decode cX0_draw 15 = .ok (.aload_n 0, 1) := by decide +kernel
theorem dX0_draw_16 : decode cX0_draw 16 = .ok (.getfield 9, 3) := by decide +kernel
theorem dX0_draw_19 : decode cX0_draw 19 = .ok (.bipush 8, 2) := by decide +kernel
theorem dX0_draw_21 : decode cX0_draw 21 = .ok (.iushr, 1) := by decide +kernel
theorem dX0_draw_22 : decode cX0_draw 22 = .ok (.ireturn, 1) := by decide +kernel
theorem dX0_hasTask_0 : decode cX0_hasTask 0 = .ok (.iload_n 1, 1) := by decide +kernel
theorem dX0_hasTask_1 : decode cX0_hasTask 1 = .ok (.ifCond .lt 15, 3) := by decide +kernel
theorem dX0_hasTask_4 : decode cX0_hasTask 4 = .ok (.iload_n 1, 1) := by decide +kernel
theorem dX0_hasTask_5 : decode cX0_hasTask 5 = .ok (.aload_n 0, 1) := by decide +kernel
theorem dX0_hasTask_6 : decode cX0_hasTask 6 = .ok (.getfield 58, 3) := by decide +kernel
theorem dX0_hasTask_9 : decode cX0_hasTask 9 = .ok (.if_icmp .ge 7, 3) := by decide +kernel
theorem dX0_hasTask_12 : decode cX0_hasTask 12 = .ok (.iconst 1, 1) := by decide +kernel
theorem dX0_hasTask_13 : decode cX0_hasTask 13 = .ok (.goto 4, 3) := by decide +kernel
theorem dX0_hasTask_16 : decode cX0_hasTask 16 = .ok (.iconst 0, 1) := by decide +kernel
theorem dX0_hasTask_17 : decode cX0_hasTask 17 = .ok (.ireturn, 1) := by decide +kernel
theorem dX0_hasPerson_0 : decode cX0_hasPerson 0 = .ok (.iload_n 1, 1) := by decide +kernel
theorem dX0_hasPerson_1 : decode cX0_hasPerson 1 = .ok (.ifCond .lt 15, 3) := by decide +kernel
theorem dX0_hasPerson_4 : decode cX0_hasPerson 4 = .ok (.iload_n 1, 1) := by decide +kernel
theorem dX0_hasPerson_5 : decode cX0_hasPerson 5 = .ok (.aload_n 0, 1) := by decide +kernel
theorem dX0_hasPerson_6 : decode cX0_hasPerson 6 = .ok (.getfield 61, 3) := by decide +kernel
theorem dX0_hasPerson_9 : decode cX0_hasPerson 9 = .ok (.if_icmp .ge 7, 3) := by decide +kernel
theorem dX0_hasPerson_12 : decode cX0_hasPerson 12 = .ok (.iconst 1, 1) := by decide +kernel
theorem dX0_hasPerson_13 : decode cX0_hasPerson 13 = .ok (.goto 4, 3) := by decide +kernel
theorem dX0_hasPerson_16 : decode cX0_hasPerson 16 = .ok (.iconst 0, 1) := by decide +kernel
theorem dX0_hasPerson_17 : decode cX0_hasPerson 17 = .ok (.ireturn, 1) := by decide +kernel
theorem dX0_addTask_0 : decode cX0_addTask 0 = .ok (.aload_n 0, 1) := by decide +kernel
theorem dX0_addTask_1 : decode cX0_addTask 1 = .ok (.getfield 58, 3) := by decide +kernel
theorem dX0_addTask_4 : decode cX0_addTask 4 = .ok (.bipush 20, 2) := by decide +kernel
theorem dX0_addTask_6 : decode cX0_addTask 6 = .ok (.if_icmp .lt 5, 3) := by decide +kernel
theorem dX0_addTask_9 : decode cX0_addTask 9 = .ok (.iconst (-1), 1) := by decide +kernel
theorem dX0_addTask_10 : decode cX0_addTask 10 = .ok (.ireturn, 1) := by decide +kernel
theorem dX0_addTask_11 : decode cX0_addTask 11 = .ok (.aload_n 0, 1) := by decide +kernel
theorem dX0_addTask_12 : decode cX0_addTask 12 = .ok (.getfield 22, 3) := by decide +kernel
theorem dX0_addTask_15 : decode cX0_addTask 15 = .ok (.aload_n 0, 1) := by decide +kernel
theorem dX0_addTask_16 : decode cX0_addTask 16 = .ok (.getfield 58, 3) := by decide +kernel
theorem dX0_addTask_19 : decode cX0_addTask 19 = .ok (.iload_n 1, 1) := by decide +kernel
theorem dX0_addTask_20 : decode cX0_addTask 20 = .ok (.iastore, 1) := by decide +kernel
theorem dX0_addTask_21 : decode cX0_addTask 21 = .ok (.aload_n 0, 1) := by decide +kernel
theorem dX0_addTask_22 : decode cX0_addTask 22 = .ok (.getfield 25, 3) := by decide +kernel
theorem dX0_addTask_25 : decode cX0_addTask 25 = .ok (.aload_n 0, 1) := by decide +kernel
theorem dX0_addTask_26 : decode cX0_addTask 26 = .ok (.getfield 58, 3) := by decide +kernel
theorem dX0_addTask_29 : decode cX0_addTask 29 = .ok (.iload_n 2, 1) := by decide +kernel
theorem dX0_addTask_30 : decode cX0_addTask 30 = .ok (.iastore, 1) := by decide +kernel
theorem dX0_addTask_31 : decode cX0_addTask 31 = .ok (.aload_n 0, 1) := by decide +kernel
theorem dX0_addTask_32 : decode cX0_addTask 32 = .ok (.getfield 28, 3) := by decide +kernel
theorem dX0_addTask_35 : decode cX0_addTask 35 = .ok (.aload_n 0, 1) := by decide +kernel
theorem dX0_addTask_36 : decode cX0_addTask 36 = .ok (.getfield 58, 3) := by decide +kernel
theorem dX0_addTask_39 : decode cX0_addTask 39 = .ok (.iload_n 3, 1) := by decide +kernel
theorem dX0_addTask_40 : decode cX0_addTask 40 = .ok (.iastore, 1) := by decide +kernel
theorem dX0_addTask_41 : decode cX0_addTask 41 = .ok (.aload_n 0, 1) := by decide +kernel
theorem dX0_addTask_42 : decode cX0_addTask 42 = .ok (.getfield 31, 3) := by decide +kernel
theorem dX0_addTask_45 : decode cX0_addTask 45 = .ok (.aload_n 0, 1) := by decide +kernel
theorem dX0_addTask_46 : decode cX0_addTask 46 = .ok (.getfield 58, 3) := by decide +kernel
theorem dX0_addTask_49 : decode cX0_addTask 49 = .ok (.iload 4, 2) := by decide +kernel
theorem dX0_addTask_51 : decode cX0_addTask 51 = .ok (.iastore, 1) := by decide +kernel
theorem dX0_addTask_52 : decode cX0_addTask 52 = .ok (.aload_n 0, 1) := by decide +kernel
theorem dX0_addTask_53 : decode cX0_addTask 53 = .ok (.dup, 1) := by decide +kernel
theorem dX0_addTask_54 : decode cX0_addTask 54 = .ok (.getfield 58, 3) := by decide +kernel
theorem dX0_addTask_57 : decode cX0_addTask 57 = .ok (.dup_x1, 1) := by decide +kernel
theorem dX0_addTask_58 : decode cX0_addTask 58 = .ok (.iconst 1, 1) := by decide +kernel
theorem dX0_addTask_59 : decode cX0_addTask 59 = .ok (.iadd, 1) := by decide +kernel
theorem dX0_addTask_60 : decode cX0_addTask 60 = .ok (.putfield 58, 3) := by decide +kernel
theorem dX0_addTask_63 : decode cX0_addTask 63 = .ok (.ireturn, 1) := by decide +kernel
theorem dX0_addPerson_0 : decode cX0_addPerson 0 = .ok (.aload_n 0, 1) := by decide +kernel
theorem dX0_addPerson_1 : decode cX0_addPerson 1 = .ok (.getfield 61, 3) := by decide +kernel
theorem dX0_addPerson_4 : decode cX0_addPerson 4 = .ok (.bipush 8, 2) := by decide +kernel
theorem dX0_addPerson_6 : decode cX0_addPerson 6 = .ok (.if_icmp .lt 5, 3) := by decide +kernel
theorem dX0_addPerson_9 : decode cX0_addPerson 9 = .ok (.iconst (-1), 1) := by decide +kernel
theorem dX0_addPerson_10 : decode cX0_addPerson 10 = .ok (.ireturn, 1) := by decide +kernel
theorem dX0_addPerson_11 : decode cX0_addPerson 11 = .ok (.aload_n 0, 1) := by decide +kernel
theorem dX0_addPerson_12 : decode cX0_addPerson 12 = .ok (.getfield 40, 3) := by decide +kernel
theorem dX0_addPerson_15 : decode cX0_addPerson 15 = .ok (.aload_n 0, 1) := by decide +kernel
theorem dX0_addPerson_16 : decode cX0_addPerson 16 = .ok (.getfield 61, 3) := by decide +kernel
theorem dX0_addPerson_19 : decode cX0_addPerson 19 = .ok (.iload_n 1, 1) := by decide +kernel
theorem dX0_addPerson_20 : decode cX0_addPerson 20 = .ok (.iastore, 1) := by decide +kernel
theorem dX0_addPerson_21 : decode cX0_addPerson 21 = .ok (.aload_n 0, 1) := by decide +kernel
theorem dX0_addPerson_22 : decode cX0_addPerson 22 = .ok (.getfield 37, 3) := by decide +kernel
theorem dX0_addPerson_25 : decode cX0_addPerson 25 = .ok (.aload_n 0, 1) := by decide +kernel
theorem dX0_addPerson_26 : decode cX0_addPerson 26 = .ok (.getfield 61, 3) := by decide +kernel
theorem dX0_addPerson_29 : decode cX0_addPerson 29 = .ok (.iload_n 2, 1) := by decide +kernel
theorem dX0_addPerson_30 : decode cX0_addPerson 30 = .ok (.iastore, 1) := by decide +kernel
theorem dX0_addPerson_31 : decode cX0_addPerson 31 = .ok (.aload_n 0, 1) := by decide +kernel
theorem dX0_addPerson_32 : decode cX0_addPerson 32 = .ok (.getfield 34, 3) := by decide +kernel
theorem dX0_addPerson_35 : decode cX0_addPerson 35 = .ok (.aload_n 0, 1) := by decide +kernel
theorem dX0_addPerson_36 : decode cX0_addPerson 36 = .ok (.getfield 61, 3) := by decide +kernel
theorem dX0_addPerson_39 : decode cX0_addPerson 39 = .ok (.iload_n 3, 1) := by decide +kernel
theorem dX0_addPerson_40 : decode cX0_addPerson 40 = .ok (.iastore, 1) := by decide +kernel
theorem dX0_addPerson_41 : decode cX0_addPerson 41 = .ok (.aload_n 0, 1) := by decide +kernel
theorem dX0_addPerson_42 : decode cX0_addPerson 42 = .ok (.getfield 43, 3) := by decide +kernel
theorem dX0_addPerson_45 : decode cX0_addPerson 45 = .ok (.aload_n 0, 1) := by decide +kernel
theorem dX0_addPerson_46 : decode cX0_addPerson 46 = .ok (.getfield 61, 3) := by decide +kernel
theorem dX0_addPerson_49 : decode cX0_addPerson 49 = .ok (.iconst (-1), 1) := by decide +kernel
theorem dX0_addPerson_50 : decode cX0_addPerson 50 = .ok (.iastore, 1) := by decide +kernel
theorem dX0_addPerson_51 : decode cX0_addPerson 51 = .ok (.aload_n 0, 1) := by decide +kernel
theorem dX0_addPerson_52 : decode cX0_addPerson 52 = .ok (.dup, 1) := by decide +kernel
theorem dX0_addPerson_53 : decode cX0_addPerson 53 = .ok (.getfield 61, 3) := by decide +kernel
theorem dX0_addPerson_56 : decode cX0_addPerson 56 = .ok (.dup_x1, 1) := by decide +kernel
theorem dX0_addPerson_57 : decode cX0_addPerson 57 = .ok (.iconst 1, 1) := by decide +kernel
theorem dX0_addPerson_58 : decode cX0_addPerson 58 = .ok (.iadd, 1) := by decide +kernel
theorem dX0_addPerson_59 : decode cX0_addPerson 59 = .ok (.putfield 61, 3) := by decide +kernel
theorem dX0_addPerson_62 : decode cX0_addPerson 62 = .ok (.ireturn, 1) := by decide +kernel
theorem dX0_isEnded_0 : decode cX0_isEnded 0 = .ok (.aload_n 0, 1) := by decide +kernel
theorem dX0_isEnded_1 : decode cX0_isEnded 1 = .ok (.getfield 28, 3) := by decide +kernel
theorem dX0_isEnded_4 : decode cX0_isEnded 4 = .ok (.iload_n 1, 1) := by decide +kernel
theorem dX0_isEnded_5 : decode cX0_isEnded 5 = .ok (.iaload, 1) := by decide +kernel
theorem dX0_isEnded_6 : decode cX0_isEnded 6 = .ok (.ifCond .ne 7, 3) := by decide +kernel
theorem dX0_isEnded_9 : decode cX0_isEnded 9 = .ok (.iconst 1, 1) := by decide +kernel
theorem dX0_isEnded_10 : decode cX0_isEnded 10 = .ok (.goto 4, 3) := by decide +kernel
theorem dX0_isEnded_13 : decode cX0_isEnded 13 = .ok (.iconst 0, 1) := by decide +kernel
theorem dX0_isEnded_14 : decode cX0_isEnded 14 = .ok (.ireturn, 1) := by decide +kernel
theorem dX0_endedTasks_0 : decode cX0_endedTasks 0 = .ok (.iconst 0, 1) := by decide +kernel
theorem dX0_endedTasks_1 : decode cX0_endedTasks 1 = .ok (.istore_n 1, 1) := by decide +kernel
theorem dX0_endedTasks_2 : decode cX0_endedTasks 2 = .ok (.iconst 0, 1) := by decide +kernel
theorem dX0_endedTasks_3 : decode cX0_endedTasks 3 = .ok (.istore_n 2, 1) := by decide +kernel
theorem dX0_endedTasks_4 : decode cX0_endedTasks 4 = .ok (.iload_n 2, 1) := by decide +kernel
theorem dX0_endedTasks_5 : decode cX0_endedTasks 5 = .ok (.aload_n 0, 1) := by decide +kernel
theorem dX0_endedTasks_6 : decode cX0_endedTasks 6 = .ok (.getfield 58, 3) := by decide +kernel
theorem dX0_endedTasks_9 : decode cX0_endedTasks 9 = .ok (.if_icmp .ge 21, 3) := by decide +kernel
theorem dX0_endedTasks_12 : decode cX0_endedTasks 12 = .ok (.aload_n 0, 1) := by decide +kernel
theorem dX0_endedTasks_13 : decode cX0_endedTasks 13 = .ok (.getfield 28, 3) := by decide +kernel
theorem dX0_endedTasks_16 : decode cX0_endedTasks 16 = .ok (.iload_n 2, 1) := by decide +kernel
theorem dX0_endedTasks_17 : decode cX0_endedTasks 17 = .ok (.iaload, 1) := by decide +kernel
theorem dX0_endedTasks_18 : decode cX0_endedTasks 18 = .ok (.ifCond .ne 6, 3) := by decide +kernel
theorem dX0_endedTasks_21 : decode cX0_endedTasks 21 = .ok (.iinc 1 1, 3) := by decide +kernel
theorem dX0_endedTasks_24 : decode cX0_endedTasks 24 = .ok (.iinc 2 1, 3) := by decide +kernel
theorem dX0_endedTasks_27 : decode cX0_endedTasks 27 = .ok (.goto (-23), 3) := by decide +kernel
theorem dX0_endedTasks_30 : decode cX0_endedTasks 30 = .ok (.iload_n 1, 1) := by decide +kernel
theorem dX0_endedTasks_31 : decode cX0_endedTasks 31 = .ok (.ireturn, 1) := by decide +kernel
theorem dX0_hoursOfAll_0 : decode cX0_hoursOfAll 0 = .ok (.iconst 0, 1) := by decide +kernel
theorem dX0_hoursOfAll_1 : decode cX0_hoursOfAll 1 = .ok (.istore_n 1, 1) := by decide +kernel
theorem dX0_hoursOfAll_2 : decode cX0_hoursOfAll 2 = .ok (.iconst 0, 1) := by decide +kernel
theorem dX0_hoursOfAll_3 : decode cX0_hoursOfAll 3 = .ok (.istore_n 2, 1) := by decide +kernel
theorem dX0_hoursOfAll_4 : decode cX0_hoursOfAll 4 = .ok (.iload_n 2, 1) := by decide +kernel
theorem dX0_hoursOfAll_5 : decode cX0_hoursOfAll 5 = .ok (.aload_n 0, 1) := by decide +kernel
theorem dX0_hoursOfAll_6 : decode cX0_hoursOfAll 6 = .ok (.getfield 58, 3) := by decide +kernel
theorem dX0_hoursOfAll_9 : decode cX0_hoursOfAll 9 = .ok (.if_icmp .ge 18, 3) := by decide +kernel
theorem dX0_hoursOfAll_12 : decode cX0_hoursOfAll 12 = .ok (.iload_n 1, 1) := by decide +kernel
theorem dX0_hoursOfAll_13 : decode cX0_hoursOfAll 13 = .ok (.aload_n 0, 1) := by decide +kernel
theorem dX0_hoursOfAll_14 : decode cX0_hoursOfAll 14 = .ok (.getfield 28, 3) := by decide +kernel
theorem dX0_hoursOfAll_17 : decode cX0_hoursOfAll 17 = .ok (.iload_n 2, 1) := by decide +kernel
theorem dX0_hoursOfAll_18 : decode cX0_hoursOfAll 18 = .ok (.iaload, 1) := by decide +kernel
theorem dX0_hoursOfAll_19 : decode cX0_hoursOfAll 19 = .ok (.iadd, 1) := by decide +kernel
theorem dX0_hoursOfAll_20 : decode cX0_hoursOfAll 20 = .ok (.istore_n 1, 1) := by decide +kernel
theorem dX0_hoursOfAll_21 : decode cX0_hoursOfAll 21 = .ok (.iinc 2 1, 3) := by decide +kernel
theorem dX0_hoursOfAll_24 : decode cX0_hoursOfAll 24 = .ok (.goto (-20), 3) := by decide +kernel
theorem dX0_hoursOfAll_27 : decode cX0_hoursOfAll 27 = .ok (.iload_n 1, 1) := by decide +kernel
theorem dX0_hoursOfAll_28 : decode cX0_hoursOfAll 28 = .ok (.ireturn, 1) := by decide +kernel
theorem dX0_growthOf_0 : decode cX0_growthOf 0 = .ok (.aload_n 0, 1) := by decide +kernel
theorem dX0_growthOf_1 : decode cX0_growthOf 1 = .ok (.iload_n 1, 1) := by decide +kernel
theorem dX0_growthOf_2 : decode cX0_growthOf 2 = .ok (.invokevirtual 71, 3) := by decide +kernel
theorem dX0_growthOf_5 : decode cX0_growthOf 5 = .ok (.ifCond .eq 7, 3) := by decide +kernel
theorem dX0_growthOf_8 : decode cX0_growthOf 8 = .ok (.iconst 0, 1) := by decide +kernel
theorem dX0_growthOf_9 : decode cX0_growthOf 9 = .ok (.goto 22, 3) := by decide +kernel
theorem dX0_growthOf_12 : decode cX0_growthOf 12 = .ok (.aload_n 0, 1) := by decide +kernel
theorem dX0_growthOf_13 : decode cX0_growthOf 13 = .ok (.getfield 22, 3) := by decide +kernel
theorem dX0_growthOf_16 : decode cX0_growthOf 16 = .ok (.iload_n 1, 1) := by decide +kernel
theorem dX0_growthOf_17 : decode cX0_growthOf 17 = .ok (.iaload, 1) := by decide +kernel
theorem dX0_growthOf_18 : decode cX0_growthOf 18 = .ok (.aload_n 0, 1) := by decide +kernel
theorem dX0_growthOf_19 : decode cX0_growthOf 19 = .ok (.getfield 28, 3) := by decide +kernel
theorem dX0_growthOf_22 : decode cX0_growthOf 22 = .ok (.iload_n 1, 1) := by decide +kernel
theorem dX0_growthOf_23 : decode cX0_growthOf 23 = .ok (.iaload, 1) := by decide +kernel
theorem dX0_growthOf_24 : decode cX0_growthOf 24 = .ok (.aload_n 0, 1) := by decide +kernel
theorem dX0_growthOf_25 : decode cX0_growthOf 25 = .ok (.getfield 55, 3) := by decide +kernel
theorem dX0_growthOf_28 : decode cX0_growthOf 28 = .ok (.invokestatic 75, 3) := by decide +kernel
theorem dX0_growthOf_31 : decode cX0_growthOf 31 = .ok (.ireturn, 1) := by decide +kernel
theorem dX0_workOf_0 : decode cX0_workOf 0 = .ok (.aload_n 0, 1) := by decide +kernel
theorem dX0_workOf_1 : decode cX0_workOf 1 = .ok (.getfield 31, 3) := by decide +kernel
theorem dX0_workOf_4 : decode cX0_workOf 4 = .ok (.iload_n 1, 1) := by decide +kernel
theorem dX0_workOf_5 : decode cX0_workOf 5 = .ok (.iaload, 1) := by decide +kernel
theorem dX0_workOf_6 : decode cX0_workOf 6 = .ok (.istore_n 3, 1) := by decide +kernel
theorem dX0_workOf_7 : decode cX0_workOf 7 = .ok (.aload_n 0, 1) := by decide +kernel
theorem dX0_workOf_8 : decode cX0_workOf 8 = .ok (.getfield 22, 3) := by decide +kernel
theorem dX0_workOf_11 : decode cX0_workOf 11 = .ok (.iload_n 1, 1) := by decide +kernel
theorem dX0_workOf_12 : decode cX0_workOf 12 = .ok (.iaload, 1) := by decide +kernel
theorem dX0_workOf_13 : decode cX0_workOf 13 = .ok (.iconst 3, 1) := by decide +kernel
theorem dX0_workOf_14 : decode cX0_workOf 14 = .ok (.if_icmp .ne 22, 3) := by decide +kernel
theorem dX0_workOf_17 : decode cX0_workOf 17 = .ok (.iload_n 3, 1) := by decide +kernel
theorem dX0_workOf_18 : decode cX0_workOf 18 = .ok (.ifCond .lt 18, 3) := by decide +kernel
theorem dX0_workOf_21 : decode cX0_workOf 21 = .ok (.aload_n 0, 1) := by decide +kernel
theorem dX0_workOf_22 : decode cX0_workOf 22 = .ok (.aload_n 0, 1) := by decide +kernel
theorem dX0_workOf_23 : decode cX0_workOf 23 = .ok (.getfield 25, 3) := by decide +kernel
theorem dX0_workOf_26 : decode cX0_workOf 26 = .ok (.iload_n 3, 1) := by decide +kernel
theorem dX0_workOf_27 : decode cX0_workOf 27 = .ok (.iaload, 1) := by decide +kernel
theorem dX0_workOf_28 : decode cX0_workOf 28 = .ok (.invokevirtual 81, 3) := by decide +kernel
theorem dX0_workOf_31 : decode cX0_workOf 31 = .ok (.ifCond .ge 5, 3) := by decide +kernel
theorem dX0_workOf_34 : decode cX0_workOf 34 = .ok (.iconst 0, 1) := by decide +kernel
theorem dX0_workOf_35 : decode cX0_workOf 35 = .ok (.ireturn, 1) := by decide +kernel
theorem dX0_workOf_36 : decode cX0_workOf 36 = .ok (.aload_n 0, 1) := by decide +kernel
theorem dX0_workOf_37 : decode cX0_workOf 37 = .ok (.getfield 22, 3) := by decide +kernel
theorem dX0_workOf_40 : decode cX0_workOf 40 = .ok (.iload_n 1, 1) := by decide +kernel
theorem dX0_workOf_41 : decode cX0_workOf 41 = .ok (.iaload, 1) := by decide +kernel
theorem dX0_workOf_42 : decode cX0_workOf 42 = .ok (.iload_n 2, 1) := by decide +kernel
theorem dX0_workOf_43 : decode cX0_workOf 43 = .ok (.aload_n 0, 1) := by decide +kernel
theorem dX0_workOf_44 : decode cX0_workOf 44 = .ok (.getfield 55, 3) := by decide +kernel
theorem dX0_workOf_47 : decode cX0_workOf 47 = .ok (.invokestatic 85, 3) := by decide +kernel
theorem dX0_workOf_50 : decode cX0_workOf 50 = .ok (.ireturn, 1) := by decide +kernel
theorem dX0_isWaiting_0 : decode cX0_isWaiting 0 = .ok (.iload_n 1, 1) := by decide +kernel
theorem dX0_isWaiting_1 : decode cX0_isWaiting 1 = .ok (.istore_n 3, 1) := by decide +kernel
theorem dX0_isWaiting_2 : decode cX0_isWaiting 2 = .ok (.iconst 0, 1) := by decide +kernel
theorem dX0_isWaiting_3 : decode cX0_isWaiting 3 = .ok (.istore 4, 2) := by decide +kernel
theorem dX0_isWaiting_5 : decode cX0_isWaiting 5 = .ok (.iload 4, 2) := by decide +kernel
theorem dX0_isWaiting_7 : decode cX0_isWaiting 7 = .ok (.aload_n 0, 1) := by decide +kernel
theorem dX0_isWaiting_8 : decode cX0_isWaiting 8 = .ok (.getfield 58, 3) := by decide +kernel
theorem dX0_isWaiting_11 : decode cX0_isWaiting 11 = .ok (.if_icmp .ge 53, 3) := by decide +kernel
theorem dX0_isWaiting_14 : decode cX0_isWaiting 14 = .ok (.aload_n 0, 1) := by decide +kernel
theorem dX0_isWaiting_15 : decode cX0_isWaiting 15 = .ok (.iload_n 3, 1) := by decide +kernel
theorem dX0_isWaiting_16 : decode cX0_isWaiting 16 = .ok (.invokevirtual 88, 3) := by decide +kernel
theorem dX0_isWaiting_19 : decode cX0_isWaiting 19 = .ok (.ifCond .eq 45, 3) := by decide +kernel
theorem dX0_isWaiting_22 : decode cX0_isWaiting 22 = .ok (.aload_n 0, 1) := by decide +kernel
theorem dX0_isWaiting_23 : decode cX0_isWaiting 23 = .ok (.getfield 28, 3) := by decide +kernel
theorem dX0_isWaiting_26 : decode cX0_isWaiting 26 = .ok (.iload_n 3, 1) := by decide +kernel
theorem dX0_isWaiting_27 : decode cX0_isWaiting 27 = .ok (.iaload, 1) := by decide +kernel
theorem dX0_isWaiting_28 : decode cX0_isWaiting 28 = .ok (.ifCond .le 36, 3) := by decide +kernel
theorem dX0_isWaiting_31 : decode cX0_isWaiting 31 = .ok (.aload_n 0, 1) := by decide +kernel
theorem dX0_isWaiting_32 : decode cX0_isWaiting 32 = .ok (.getfield 31, 3) := by decide +kernel
theorem dX0_isWaiting_35 : decode cX0_isWaiting 35 = .ok (.iload_n 3, 1) := by decide +kernel
theorem dX0_isWaiting_36 : decode cX0_isWaiting 36 = .ok (.iaload, 1) := by decide +kernel
theorem dX0_isWaiting_37 : decode cX0_isWaiting 37 = .ok (.istore_n 3, 1) := by decide +kernel
theorem dX0_isWaiting_38 : decode cX0_isWaiting 38 = .ok (.iload_n 3, 1) := by decide +kernel
theorem dX0_isWaiting_39 : decode cX0_isWaiting 39 = .ok (.iload_n 2, 1) := by decide +kernel
theorem dX0_isWaiting_40 : decode cX0_isWaiting 40 = .ok (.if_icmp .ne 18, 3) := by decide +kernel
theorem dX0_isWaiting_43 : decode cX0_isWaiting 43 = .ok (.aload_n 0, 1) := by decide +kernel
theorem dX0_isWaiting_44 : decode cX0_isWaiting 44 = .ok (.getfield 28, 3) := by decide +kernel
theorem dX0_isWaiting_47 : decode cX0_isWaiting 47 = .ok (.iload_n 2, 1) := by decide +kernel
theorem dX0_isWaiting_48 : decode cX0_isWaiting 48 = .ok (.iaload, 1) := by decide +kernel
theorem dX0_isWaiting_49 : decode cX0_isWaiting 49 = .ok (.ifCond .le 7, 3) := by decide +kernel
theorem dX0_isWaiting_52 : decode cX0_isWaiting 52 = .ok (.iconst 1, 1) := by decide +kernel
theorem dX0_isWaiting_53 : decode cX0_isWaiting 53 = .ok (.goto 4, 3) := by decide +kernel
theorem dX0_isWaiting_56 : decode cX0_isWaiting 56 = .ok (.iconst 0, 1) := by decide +kernel
theorem dX0_isWaiting_57 : decode cX0_isWaiting 57 = .ok (.ireturn, 1) := by decide +kernel
theorem dX0_isWaiting_58 : decode cX0_isWaiting 58 = .ok (.iinc 4 1, 3) := by decide +kernel
theorem dX0_isWaiting_61 : decode cX0_isWaiting 61 = .ok (.goto (-56), 3) := by decide +kernel
theorem dX0_isWaiting_64 : decode cX0_isWaiting 64 = .ok (.iconst 0, 1) := by decide +kernel
theorem dX0_isWaiting_65 : decode cX0_isWaiting 65 = .ok (.ireturn, 1) := by decide +kernel
theorem dX0_openNames_0 : decode cX0_openNames 0 = .ok (.iconst 0, 1) := by decide +kernel
theorem dX0_openNames_1 : decode cX0_openNames 1 = .ok (.istore_n 1, 1) := by decide +kernel
theorem dX0_openNames_2 : decode cX0_openNames 2 = .ok (.iconst 0, 1) := by decide +kernel
theorem dX0_openNames_3 : decode cX0_openNames 3 = .ok (.istore_n 2, 1) := by decide +kernel
theorem dX0_openNames_4 : decode cX0_openNames 4 = .ok (.iload_n 2, 1) := by decide +kernel
theorem dX0_openNames_5 : decode cX0_openNames 5 = .ok (.aload_n 0, 1) := by decide +kernel
theorem dX0_openNames_6 : decode cX0_openNames 6 = .ok (.getfield 58, 3) := by decide +kernel
theorem dX0_openNames_9 : decode cX0_openNames 9 = .ok (.if_icmp .ge 29, 3) := by decide +kernel
theorem dX0_openNames_12 : decode cX0_openNames 12 = .ok (.aload_n 0, 1) := by decide +kernel
theorem dX0_openNames_13 : decode cX0_openNames 13 = .ok (.getfield 28, 3) := by decide +kernel
theorem dX0_openNames_16 : decode cX0_openNames 16 = .ok (.iload_n 2, 1) := by decide +kernel
theorem dX0_openNames_17 : decode cX0_openNames 17 = .ok (.iaload, 1) := by decide +kernel
theorem dX0_openNames_18 : decode cX0_openNames 18 = .ok (.ifCond .le 14, 3) := by decide +kernel
theorem dX0_openNames_21 : decode cX0_openNames 21 = .ok (.iload_n 1, 1) := by decide +kernel
theorem dX0_openNames_22 : decode cX0_openNames 22 = .ok (.iconst 1, 1) := by decide +kernel
theorem dX0_openNames_23 : decode cX0_openNames 23 = .ok (.aload_n 0, 1) := by decide +kernel
theorem dX0_openNames_24 : decode cX0_openNames 24 = .ok (.getfield 25, 3) := by decide +kernel
theorem dX0_openNames_27 : decode cX0_openNames 27 = .ok (.iload_n 2, 1) := by decide +kernel
theorem dX0_openNames_28 : decode cX0_openNames 28 = .ok (.iaload, 1) := by decide +kernel
theorem dX0_openNames_29 : decode cX0_openNames 29 = .ok (.ishl, 1) := by decide +kernel
theorem dX0_openNames_30 : decode cX0_openNames 30 = .ok (.ior, 1) := by decide +kernel
theorem dX0_openNames_31 : decode cX0_openNames 31 = .ok (.istore_n 1, 1) := by decide +kernel
theorem dX0_openNames_32 : decode cX0_openNames 32 = .ok (.iinc 2 1, 3) := by decide +kernel
theorem dX0_openNames_35 : decode cX0_openNames 35 = .ok (.goto (-31), 3) := by decide +kernel
theorem dX0_openNames_38 : decode cX0_openNames 38 = .ok (.iload_n 1, 1) := by decide +kernel
theorem dX0_openNames_39 : decode cX0_openNames 39 = .ok (.ireturn, 1) := by decide +kernel
theorem dX0_isOpen_0 : decode cX0_isOpen 0 = .ok (.aload_n 0, 1) := by decide +kernel
theorem dX0_isOpen_1 : decode cX0_isOpen 1 = .ok (.invokevirtual 91, 3) := by decide +kernel
theorem dX0_isOpen_4 : decode cX0_isOpen 4 = .ok (.iload_n 1, 1) := by decide +kernel
theorem dX0_isOpen_5 : decode cX0_isOpen 5 = .ok (.iushr, 1) := by decide +kernel
theorem dX0_isOpen_6 : decode cX0_isOpen 6 = .ok (.iconst 1, 1) := by decide +kernel
theorem dX0_isOpen_7 : decode cX0_isOpen 7 = .ok (.iand, 1) := by decide +kernel
theorem dX0_isOpen_8 : decode cX0_isOpen 8 = .ok (.iconst 1, 1) := by decide +kernel
theorem dX0_isOpen_9 : decode cX0_isOpen 9 = .ok (.if_icmp .ne 7, 3) := by decide +kernel
theorem dX0_isOpen_12 : decode cX0_isOpen 12 = .ok (.iconst 1, 1) := by decide +kernel
theorem dX0_isOpen_13 : decode cX0_isOpen 13 = .ok (.goto 4, 3) := by decide +kernel
theorem dX0_isOpen_16 : decode cX0_isOpen 16 = .ok (.iconst 0, 1) := by decide +kernel
theorem dX0_isOpen_17 : decode cX0_isOpen 17 = .ok (.ireturn, 1) := by decide +kernel
theorem dX0_freeNames_0 : decode cX0_freeNames 0 = .ok (.aload_n 0, 1) := by decide +kernel
theorem dX0_freeNames_1 : decode cX0_freeNames 1 = .ok (.invokevirtual 91, 3) := by decide +kernel
theorem dX0_freeNames_4 : decode cX0_freeNames 4 = .ok (.istore_n 1, 1) := by decide +kernel
theorem dX0_freeNames_5 : decode cX0_freeNames 5 = .ok (.iconst 0, 1) := by decide +kernel
theorem dX0_freeNames_6 : decode cX0_freeNames 6 = .ok (.istore_n 2, 1) := by decide +kernel
theorem dX0_freeNames_7 : decode cX0_freeNames 7 = .ok (.iload_n 2, 1) := by decide +kernel
theorem dX0_freeNames_8 : decode cX0_freeNames 8 = .ok (.aload_n 0, 1) := by decide +kernel
theorem dX0_freeNames_9 : decode cX0_freeNames 9 = .ok (.getfield 61, 3) := by decide +kernel
theorem dX0_freeNames_12 : decode cX0_freeNames 12 = .ok (.if_icmp .ge 31, 3) := by decide +kernel
theorem dX0_freeNames_15 : decode cX0_freeNames 15 = .ok (.aload_n 0, 1) := by decide +kernel
theorem dX0_freeNames_16 : decode cX0_freeNames 16 = .ok (.getfield 34, 3) := by decide +kernel
theorem dX0_freeNames_19 : decode cX0_freeNames 19 = .ok (.iload_n 2, 1) := by decide +kernel
theorem dX0_freeNames_20 : decode cX0_freeNames 20 = .ok (.iaload, 1) := by decide +kernel
theorem dX0_freeNames_21 : decode cX0_freeNames 21 = .ok (.ifCond .lt 16, 3) := by decide +kernel
theorem dX0_freeNames_24 : decode cX0_freeNames 24 = .ok (.iload_n 1, 1) := by decide +kernel
theorem dX0_freeNames_25 : decode cX0_freeNames 25 = .ok (.iconst 1, 1) := by decide +kernel
theorem dX0_freeNames_26 : decode cX0_freeNames 26 = .ok (.aload_n 0, 1) := by decide +kernel
theorem dX0_freeNames_27 : decode cX0_freeNames 27 = .ok (.getfield 34, 3) := by decide +kernel
theorem dX0_freeNames_30 : decode cX0_freeNames 30 = .ok (.iload_n 2, 1) := by decide +kernel
theorem dX0_freeNames_31 : decode cX0_freeNames 31 = .ok (.iaload, 1) := by decide +kernel
theorem dX0_freeNames_32 : decode cX0_freeNames 32 = .ok (.ishl, 1) := by decide +kernel
theorem dX0_freeNames_33 : decode cX0_freeNames 33 = .ok (.iconst (-1), 1) := by decide +kernel
theorem dX0_freeNames_34 : decode cX0_freeNames 34 = .ok (.ixor, 1) := by decide +kernel
theorem dX0_freeNames_35 : decode cX0_freeNames 35 = .ok (.iand, 1) := by decide +kernel
theorem dX0_freeNames_36 : decode cX0_freeNames 36 = .ok (.istore_n 1, 1) := by decide +kernel
theorem dX0_freeNames_37 : decode cX0_freeNames 37 = .ok (.iinc 2 1, 3) := by decide +kernel
theorem dX0_freeNames_40 : decode cX0_freeNames 40 = .ok (.goto (-33), 3) := by decide +kernel
theorem dX0_freeNames_43 : decode cX0_freeNames 43 = .ok (.iload_n 1, 1) := by decide +kernel
theorem dX0_freeNames_44 : decode cX0_freeNames 44 = .ok (.ireturn, 1) := by decide +kernel
theorem dX0_bearerOf_0 : decode cX0_bearerOf 0 = .ok (.iconst 0, 1) := by decide +kernel
theorem dX0_bearerOf_1 : decode cX0_bearerOf 1 = .ok (.istore_n 2, 1) := by decide +kernel
theorem dX0_bearerOf_2 : decode cX0_bearerOf 2 = .ok (.iload_n 2, 1) := by decide +kernel
theorem dX0_bearerOf_3 : decode cX0_bearerOf 3 = .ok (.aload_n 0, 1) := by decide +kernel
theorem dX0_bearerOf_4 : decode cX0_bearerOf 4 = .ok (.getfield 61, 3) := by decide +kernel
theorem dX0_bearerOf_7 : decode cX0_bearerOf 7 = .ok (.if_icmp .ge 21, 3) := by decide +kernel
theorem dX0_bearerOf_10 : decode cX0_bearerOf 10 = .ok (.aload_n 0, 1) := by decide +kernel
theorem dX0_bearerOf_11 : decode cX0_bearerOf 11 = .ok (.getfield 34, 3) := by decide +kernel
theorem dX0_bearerOf_14 : decode cX0_bearerOf 14 = .ok (.iload_n 2, 1) := by decide +kernel
theorem dX0_bearerOf_15 : decode cX0_bearerOf 15 = .ok (.iaload, 1) := by decide +kernel
theorem dX0_bearerOf_16 : decode cX0_bearerOf 16 = .ok (.iload_n 1, 1) := by decide +kernel
theorem dX0_bearerOf_17 : decode cX0_bearerOf 17 = .ok (.if_icmp .ne 5, 3) := by decide +kernel
theorem dX0_bearerOf_20 : decode cX0_bearerOf 20 = .ok (.iload_n 2, 1) := by decide +kernel
theorem dX0_bearerOf_21 : decode cX0_bearerOf 21 = .ok (.ireturn, 1) := by decide +kernel
theorem dX0_bearerOf_22 : decode cX0_bearerOf 22 = .ok (.iinc 2 1, 3) := by decide +kernel
theorem dX0_bearerOf_25 : decode cX0_bearerOf 25 = .ok (.goto (-23), 3) := by decide +kernel
theorem dX0_bearerOf_28 : decode cX0_bearerOf 28 = .ok (.iconst (-1), 1) := by decide +kernel
theorem dX0_bearerOf_29 : decode cX0_bearerOf 29 = .ok (.ireturn, 1) := by decide +kernel
theorem dX0_mayTake_0 : decode cX0_mayTake 0 = .ok (.iload_n 2, 1) := by decide +kernel
theorem dX0_mayTake_1 : decode cX0_mayTake 1 = .ok (.iconst (-1), 1) := by decide +kernel
theorem dX0_mayTake_2 : decode cX0_mayTake 2 = .ok (.if_icmp .ne 5, 3) := by decide +kernel
theorem dX0_mayTake_5 : decode cX0_mayTake 5 = .ok (.iconst 1, 1) := by decide +kernel
theorem dX0_mayTake_6 : decode cX0_mayTake 6 = .ok (.ireturn, 1) := by decide +kernel
theorem dX0_mayTake_7 : decode cX0_mayTake 7 = .ok (.aload_n 0, 1) := by decide +kernel
theorem dX0_mayTake_8 : decode cX0_mayTake 8 = .ok (.iload_n 2, 1) := by decide +kernel
theorem dX0_mayTake_9 : decode cX0_mayTake 9 = .ok (.invokevirtual 81, 3) := by decide +kernel
theorem dX0_mayTake_12 : decode cX0_mayTake 12 = .ok (.istore_n 3, 1) := by decide +kernel
theorem dX0_mayTake_13 : decode cX0_mayTake 13 = .ok (.aload_n 0, 1) := by decide +kernel
theorem dX0_mayTake_14 : decode cX0_mayTake 14 = .ok (.getfield 37, 3) := by decide +kernel
theorem dX0_mayTake_17 : decode cX0_mayTake 17 = .ok (.iload_n 1, 1) := by decide +kernel
theorem dX0_mayTake_18 : decode cX0_mayTake 18 = .ok (.iaload, 1) := by decide +kernel
theorem dX0_mayTake_19 : decode cX0_mayTake 19 = .ok (.bipush 40, 2) := by decide +kernel
theorem dX0_mayTake_21 : decode cX0_mayTake 21 = .ok (.if_icmp .ge 16, 3) := by decide +kernel
theorem dX0_mayTake_24 : decode cX0_mayTake 24 = .ok (.iload_n 3, 1) := by decide +kernel
theorem dX0_mayTake_25 : decode cX0_mayTake 25 = .ok (.ifCond .lt 8, 3) := by decide +kernel
theorem dX0_mayTake_28 : decode cX0_mayTake 28 = .ok (.iload_n 3, 1) := by decide +kernel
theorem dX0_mayTake_29 : decode cX0_mayTake 29 = .ok (.iload_n 1, 1) := by decide +kernel
theorem dX0_mayTake_30 : decode cX0_mayTake 30 = .ok (.if_icmp .ne 7, 3) := by decide +kernel
theorem dX0_mayTake_33 : decode cX0_mayTake 33 = .ok (.iconst 1, 1) := by decide +kernel
theorem dX0_mayTake_34 : decode cX0_mayTake 34 = .ok (.goto 4, 3) := by decide +kernel
theorem dX0_mayTake_37 : decode cX0_mayTake 37 = .ok (.iconst 0, 1) := by decide +kernel
theorem dX0_mayTake_38 : decode cX0_mayTake 38 = .ok (.ireturn, 1) := by decide +kernel
theorem dX0_tasksOf_0 : decode cX0_tasksOf 0 = .ok (.iconst 0, 1) := by decide +kernel
theorem dX0_tasksOf_1 : decode cX0_tasksOf 1 = .ok (.istore_n 2, 1) := by decide +kernel
theorem dX0_tasksOf_2 : decode cX0_tasksOf 2 = .ok (.iconst 0, 1) := by decide +kernel
theorem dX0_tasksOf_3 : decode cX0_tasksOf 3 = .ok (.istore_n 3, 1) := by decide +kernel
theorem dX0_tasksOf_4 : decode cX0_tasksOf 4 = .ok (.iload_n 3, 1) := by decide +kernel
theorem dX0_tasksOf_5 : decode cX0_tasksOf 5 = .ok (.aload_n 0, 1) := by decide +kernel
theorem dX0_tasksOf_6 : decode cX0_tasksOf 6 = .ok (.getfield 58, 3) := by decide +kernel
theorem dX0_tasksOf_9 : decode cX0_tasksOf 9 = .ok (.if_icmp .ge 22, 3) := by decide +kernel
theorem dX0_tasksOf_12 : decode cX0_tasksOf 12 = .ok (.aload_n 0, 1) := by decide +kernel
theorem dX0_tasksOf_13 : decode cX0_tasksOf 13 = .ok (.getfield 25, 3) := by decide +kernel
theorem dX0_tasksOf_16 : decode cX0_tasksOf 16 = .ok (.iload_n 3, 1) := by decide +kernel
theorem dX0_tasksOf_17 : decode cX0_tasksOf 17 = .ok (.iaload, 1) := by decide +kernel
theorem dX0_tasksOf_18 : decode cX0_tasksOf 18 = .ok (.iload_n 1, 1) := by decide +kernel
theorem dX0_tasksOf_19 : decode cX0_tasksOf 19 = .ok (.if_icmp .ne 6, 3) := by decide +kernel
theorem dX0_tasksOf_22 : decode cX0_tasksOf 22 = .ok (.iinc 2 1, 3) := by decide +kernel
theorem dX0_tasksOf_25 : decode cX0_tasksOf 25 = .ok (.iinc 3 1, 3) := by decide +kernel
theorem dX0_tasksOf_28 : decode cX0_tasksOf 28 = .ok (.goto (-24), 3) := by decide +kernel
theorem dX0_tasksOf_31 : decode cX0_tasksOf 31 = .ok (.iload_n 2, 1) := by decide +kernel
theorem dX0_tasksOf_32 : decode cX0_tasksOf 32 = .ok (.ireturn, 1) := by decide +kernel
theorem dX0_hoursOf_0 : decode cX0_hoursOf 0 = .ok (.iconst 0, 1) := by decide +kernel
theorem dX0_hoursOf_1 : decode cX0_hoursOf 1 = .ok (.istore_n 2, 1) := by decide +kernel
theorem dX0_hoursOf_2 : decode cX0_hoursOf 2 = .ok (.iconst 0, 1) := by decide +kernel
theorem dX0_hoursOf_3 : decode cX0_hoursOf 3 = .ok (.istore_n 3, 1) := by decide +kernel
theorem dX0_hoursOf_4 : decode cX0_hoursOf 4 = .ok (.iload_n 3, 1) := by decide +kernel
theorem dX0_hoursOf_5 : decode cX0_hoursOf 5 = .ok (.aload_n 0, 1) := by decide +kernel
theorem dX0_hoursOf_6 : decode cX0_hoursOf 6 = .ok (.getfield 58, 3) := by decide +kernel
theorem dX0_hoursOf_9 : decode cX0_hoursOf 9 = .ok (.if_icmp .ge 28, 3) := by decide +kernel
theorem dX0_hoursOf_12 : decode cX0_hoursOf 12 = .ok (.aload_n 0, 1) := by decide +kernel
theorem dX0_hoursOf_13 : decode cX0_hoursOf 13 = .ok (.getfield 25, 3) := by decide +kernel
theorem dX0_hoursOf_16 : decode cX0_hoursOf 16 = .ok (.iload_n 3, 1) := by decide +kernel
theorem dX0_hoursOf_17 : decode cX0_hoursOf 17 = .ok (.iaload, 1) := by decide +kernel
theorem dX0_hoursOf_18 : decode cX0_hoursOf 18 = .ok (.iload_n 1, 1) := by decide +kernel
theorem dX0_hoursOf_19 : decode cX0_hoursOf 19 = .ok (.if_icmp .ne 12, 3) := by decide +kernel
theorem dX0_hoursOf_22 : decode cX0_hoursOf 22 = .ok (.iload_n 2, 1) := by decide +kernel
theorem dX0_hoursOf_23 : decode cX0_hoursOf 23 = .ok (.aload_n 0, 1) := by decide +kernel
theorem dX0_hoursOf_24 : decode cX0_hoursOf 24 = .ok (.getfield 28, 3) := by decide +kernel
theorem dX0_hoursOf_27 : decode cX0_hoursOf 27 = .ok (.iload_n 3, 1) := by decide +kernel
theorem dX0_hoursOf_28 : decode cX0_hoursOf 28 = .ok (.iaload, 1) := by decide +kernel
theorem dX0_hoursOf_29 : decode cX0_hoursOf 29 = .ok (.iadd, 1) := by decide +kernel
theorem dX0_hoursOf_30 : decode cX0_hoursOf 30 = .ok (.istore_n 2, 1) := by decide +kernel
theorem dX0_hoursOf_31 : decode cX0_hoursOf 31 = .ok (.iinc 3 1, 3) := by decide +kernel
theorem dX0_hoursOf_34 : decode cX0_hoursOf 34 = .ok (.goto (-30), 3) := by decide +kernel
theorem dX0_hoursOf_37 : decode cX0_hoursOf 37 = .ok (.iload_n 2, 1) := by decide +kernel
theorem dX0_hoursOf_38 : decode cX0_hoursOf 38 = .ok (.ireturn, 1) := by decide +kernel
theorem dX0_mostWork_0 : decode cX0_mostWork 0 = .ok (.aload_n 0, 1) := by decide +kernel
theorem dX0_mostWork_1 : decode cX0_mostWork 1 = .ok (.getfield 37, 3) := by decide +kernel
theorem dX0_mostWork_4 : decode cX0_mostWork 4 = .ok (.iload_n 1, 1) := by decide +kernel
theorem dX0_mostWork_5 : decode cX0_mostWork 5 = .ok (.iaload, 1) := by decide +kernel
theorem dX0_mostWork_6 : decode cX0_mostWork 6 = .ok (.iload_n 3, 1) := by decide +kernel
theorem dX0_mostWork_7 : decode cX0_mostWork 7 = .ok (.iadd, 1) := by decide +kernel
theorem dX0_mostWork_8 : decode cX0_mostWork 8 = .ok (.bipush 40, 2) := by decide +kernel
theorem dX0_mostWork_10 : decode cX0_mostWork 10 = .ok (.invokestatic 95, 3) := by decide +kernel
theorem dX0_mostWork_13 : decode cX0_mostWork 13 = .ok (.istore 4, 2) := by decide +kernel
theorem dX0_mostWork_15 : decode cX0_mostWork 15 = .ok (.iconst 0, 1) := by decide +kernel
theorem dX0_mostWork_16 : decode cX0_mostWork 16 = .ok (.iload 4, 2) := by decide +kernel
theorem dX0_mostWork_18 : decode cX0_mostWork 18 = .ok (.aload_n 0, 1) := by decide +kernel
theorem dX0_mostWork_19 : decode cX0_mostWork 19 = .ok (.getfield 37, 3) := by decide +kernel
theorem dX0_mostWork_22 : decode cX0_mostWork 22 = .ok (.iload_n 1, 1) := by decide +kernel
theorem dX0_mostWork_23 : decode cX0_mostWork 23 = .ok (.iaload, 1) := by decide +kernel
theorem dX0_mostWork_24 : decode cX0_mostWork 24 = .ok (.bipush 7, 2) := by decide +kernel
theorem dX0_mostWork_26 : decode cX0_mostWork 26 = .ok (.invokestatic 101, 3) := by decide +kernel
theorem dX0_mostWork_29 : decode cX0_mostWork 29 = .ok (.isub, 1) := by decide +kernel
theorem dX0_mostWork_30 : decode cX0_mostWork 30 = .ok (.invokestatic 101, 3) := by decide +kernel
theorem dX0_mostWork_33 : decode cX0_mostWork 33 = .ok (.aload_n 0, 1) := by decide +kernel
theorem dX0_mostWork_34 : decode cX0_mostWork 34 = .ok (.iload_n 2, 1) := by decide +kernel
theorem dX0_mostWork_35 : decode cX0_mostWork 35 = .ok (.aload_n 0, 1) := by decide +kernel
theorem dX0_mostWork_36 : decode cX0_mostWork 36 = .ok (.getfield 40, 3) := by decide +kernel
theorem dX0_mostWork_39 : decode cX0_mostWork 39 = .ok (.iload_n 1, 1) := by decide +kernel
theorem dX0_mostWork_40 : decode cX0_mostWork 40 = .ok (.iaload, 1) := by decide +kernel
theorem dX0_mostWork_41 : decode cX0_mostWork 41 = .ok (.invokevirtual 104, 3) := by decide +kernel
theorem dX0_mostWork_44 : decode cX0_mostWork 44 = .ok (.imul, 1) := by decide +kernel
theorem dX0_mostWork_45 : decode cX0_mostWork 45 = .ok (.istore 5, 2) := by decide +kernel
theorem dX0_mostWork_47 : decode cX0_mostWork 47 = .ok (.iconst 0, 1) := by decide +kernel
theorem dX0_mostWork_48 : decode cX0_mostWork 48 = .ok (.istore 6, 2) := by decide +kernel
theorem dX0_mostWork_50 : decode cX0_mostWork 50 = .ok (.iload 6, 2) := by decide +kernel
theorem dX0_mostWork_52 : decode cX0_mostWork 52 = .ok (.aload_n 0, 1) := by decide +kernel
theorem dX0_mostWork_53 : decode cX0_mostWork 53 = .ok (.getfield 61, 3) := by decide +kernel
theorem dX0_mostWork_56 : decode cX0_mostWork 56 = .ok (.if_icmp .ge 49, 3) := by decide +kernel
theorem dX0_mostWork_59 : decode cX0_mostWork 59 = .ok (.aload_n 0, 1) := by decide +kernel
theorem dX0_mostWork_60 : decode cX0_mostWork 60 = .ok (.getfield 43, 3) := by decide +kernel
theorem dX0_mostWork_63 : decode cX0_mostWork 63 = .ok (.iload 6, 2) := by decide +kernel
theorem dX0_mostWork_65 : decode cX0_mostWork 65 = .ok (.iaload, 1) := by decide +kernel
theorem dX0_mostWork_66 : decode cX0_mostWork 66 = .ok (.iload_n 1, 1) := by decide +kernel
theorem dX0_mostWork_67 : decode cX0_mostWork 67 = .ok (.if_icmp .ne 32, 3) := by decide +kernel
theorem dX0_mostWork_70 : decode cX0_mostWork 70 = .ok (.iload 5, 2) := by decide +kernel
theorem dX0_mostWork_72 : decode cX0_mostWork 72 = .ok (.iload 4, 2) := by decide +kernel
theorem dX0_mostWork_74 : decode cX0_mostWork 74 = .ok (.aload_n 0, 1) := by decide +kernel
theorem dX0_mostWork_75 : decode cX0_mostWork 75 = .ok (.getfield 37, 3) := by decide +kernel
theorem dX0_mostWork_78 : decode cX0_mostWork 78 = .ok (.iload_n 1, 1) := by decide +kernel
theorem dX0_mostWork_79 : decode cX0_mostWork 79 = .ok (.iaload, 1) := by decide +kernel
theorem dX0_mostWork_80 : decode cX0_mostWork 80 = .ok (.isub, 1) := by decide +kernel
theorem dX0_mostWork_81 : decode cX0_mostWork 81 = .ok (.aload_n 0, 1) := by decide +kernel
theorem dX0_mostWork_82 : decode cX0_mostWork 82 = .ok (.iload_n 2, 1) := by decide +kernel
theorem dX0_mostWork_83 : decode cX0_mostWork 83 = .ok (.aload_n 0, 1) := by decide +kernel
theorem dX0_mostWork_84 : decode cX0_mostWork 84 = .ok (.getfield 40, 3) := by decide +kernel
theorem dX0_mostWork_87 : decode cX0_mostWork 87 = .ok (.iload 6, 2) := by decide +kernel
theorem dX0_mostWork_89 : decode cX0_mostWork 89 = .ok (.iaload, 1) := by decide +kernel
theorem dX0_mostWork_90 : decode cX0_mostWork 90 = .ok (.iconst 2, 1) := by decide +kernel
theorem dX0_mostWork_91 : decode cX0_mostWork 91 = .ok (.idiv, 1) := by decide +kernel
theorem dX0_mostWork_92 : decode cX0_mostWork 92 = .ok (.invokevirtual 104, 3) := by decide +kernel
theorem dX0_mostWork_95 : decode cX0_mostWork 95 = .ok (.imul, 1) := by decide +kernel
theorem dX0_mostWork_96 : decode cX0_mostWork 96 = .ok (.iadd, 1) := by decide +kernel
theorem dX0_mostWork_97 : decode cX0_mostWork 97 = .ok (.istore 5, 2) := by decide +kernel
theorem dX0_mostWork_99 : decode cX0_mostWork 99 = .ok (.iinc 6 1, 3) := by decide +kernel
theorem dX0_mostWork_102 : decode cX0_mostWork 102 = .ok (.goto (-52), 3) := by decide +kernel
theorem dX0_mostWork_105 : decode cX0_mostWork 105 = .ok (.iload 5, 2) := by decide +kernel
theorem dX0_mostWork_107 : decode cX0_mostWork 107 = .ok (.ireturn, 1) := by decide +kernel
theorem dX0_mostWorkOf_0 : decode cX0_mostWorkOf 0 = .ok (.iconst 0, 1) := by decide +kernel
theorem dX0_mostWorkOf_1 : decode cX0_mostWorkOf 1 = .ok (.istore_n 3, 1) := by decide +kernel
theorem dX0_mostWorkOf_2 : decode cX0_mostWorkOf 2 = .ok (.iload_n 3, 1) := by decide +kernel
theorem dX0_mostWorkOf_3 : decode cX0_mostWorkOf 3 = .ok (.aload_n 0, 1) := by decide +kernel
theorem dX0_mostWorkOf_4 : decode cX0_mostWorkOf 4 = .ok (.getfield 58, 3) := by decide +kernel
theorem dX0_mostWorkOf_7 : decode cX0_mostWorkOf 7 = .ok (.if_icmp .ge 51, 3) := by decide +kernel
theorem dX0_mostWorkOf_10 : decode cX0_mostWorkOf 10 = .ok (.aload_n 0, 1) := by decide +kernel
theorem dX0_mostWorkOf_11 : decode cX0_mostWorkOf 11 = .ok (.getfield 25, 3) := by decide +kernel
theorem dX0_mostWorkOf_14 : decode cX0_mostWorkOf 14 = .ok (.iload_n 3, 1) := by decide +kernel
theorem dX0_mostWorkOf_15 : decode cX0_mostWorkOf 15 = .ok (.iaload, 1) := by decide +kernel
theorem dX0_mostWorkOf_16 : decode cX0_mostWorkOf 16 = .ok (.iload_n 1, 1) := by decide +kernel
theorem dX0_mostWorkOf_17 : decode cX0_mostWorkOf 17 = .ok (.if_icmp .ne 35, 3) := by decide +kernel
theorem dX0_mostWorkOf_20 : decode cX0_mostWorkOf 20 = .ok (.aload_n 0, 1) := by decide +kernel
theorem dX0_mostWorkOf_21 : decode cX0_mostWorkOf 21 = .ok (.getfield 28, 3) := by decide +kernel
theorem dX0_mostWorkOf_24 : decode cX0_mostWorkOf 24 = .ok (.iload_n 3, 1) := by decide +kernel
theorem dX0_mostWorkOf_25 : decode cX0_mostWorkOf 25 = .ok (.iaload, 1) := by decide +kernel
theorem dX0_mostWorkOf_26 : decode cX0_mostWorkOf 26 = .ok (.ifCond .le 26, 3) := by decide +kernel
theorem dX0_mostWorkOf_29 : decode cX0_mostWorkOf 29 = .ok (.aload_n 0, 1) := by decide +kernel
theorem dX0_mostWorkOf_30 : decode cX0_mostWorkOf 30 = .ok (.getfield 22, 3) := by decide +kernel
theorem dX0_mostWorkOf_33 : decode cX0_mostWorkOf 33 = .ok (.iload_n 3, 1) := by decide +kernel
theorem dX0_mostWorkOf_34 : decode cX0_mostWorkOf 34 = .ok (.iaload, 1) := by decide +kernel
theorem dX0_mostWorkOf_35 : decode cX0_mostWorkOf 35 = .ok (.iconst 4, 1) := by decide +kernel
theorem dX0_mostWorkOf_36 : decode cX0_mostWorkOf 36 = .ok (.invokestatic 107, 3) := by decide +kernel
theorem dX0_mostWorkOf_39 : decode cX0_mostWorkOf 39 = .ok (.ifCond .eq 13, 3) := by decide +kernel
theorem dX0_mostWorkOf_42 : decode cX0_mostWorkOf 42 = .ok (.iconst 5, 1) := by decide +kernel
theorem dX0_mostWorkOf_43 : decode cX0_mostWorkOf 43 = .ok (.iload_n 2, 1) := by decide +kernel
theorem dX0_mostWorkOf_44 : decode cX0_mostWorkOf 44 = .ok (.aload_n 0, 1) := by decide +kernel
theorem dX0_mostWorkOf_45 : decode cX0_mostWorkOf 45 = .ok (.getfield 55, 3) := by decide +kernel
theorem dX0_mostWorkOf_48 : decode cX0_mostWorkOf 48 = .ok (.invokestatic 85, 3) := by decide +kernel
theorem dX0_mostWorkOf_51 : decode cX0_mostWorkOf 51 = .ok (.ireturn, 1) := by decide +kernel
theorem dX0_mostWorkOf_52 : decode cX0_mostWorkOf 52 = .ok (.iinc 3 1, 3) := by decide +kernel
theorem dX0_mostWorkOf_55 : decode cX0_mostWorkOf 55 = .ok (.goto (-53), 3) := by decide +kernel
theorem dX0_mostWorkOf_58 : decode cX0_mostWorkOf 58 = .ok (.iload_n 2, 1) := by decide +kernel
theorem dX0_mostWorkOf_59 : decode cX0_mostWorkOf 59 = .ok (.ireturn, 1) := by decide +kernel
theorem dX0_isAtHand_0 : decode cX0_isAtHand 0 = .ok (.aload_n 0, 1) := by decide +kernel
theorem dX0_isAtHand_1 : decode cX0_isAtHand 1 = .ok (.getfield 28, 3) := by decide +kernel
theorem dX0_isAtHand_4 : decode cX0_isAtHand 4 = .ok (.iload_n 1, 1) := by decide +kernel
theorem dX0_isAtHand_5 : decode cX0_isAtHand 5 = .ok (.iaload, 1) := by decide +kernel
theorem dX0_isAtHand_6 : decode cX0_isAtHand 6 = .ok (.ifCond .le 30, 3) := by decide +kernel
theorem dX0_isAtHand_9 : decode cX0_isAtHand 9 = .ok (.aload_n 0, 1) := by decide +kernel
theorem dX0_isAtHand_10 : decode cX0_isAtHand 10 = .ok (.getfield 31, 3) := by decide +kernel
theorem dX0_isAtHand_13 : decode cX0_isAtHand 13 = .ok (.iload_n 1, 1) := by decide +kernel
theorem dX0_isAtHand_14 : decode cX0_isAtHand 14 = .ok (.iaload, 1) := by decide +kernel
theorem dX0_isAtHand_15 : decode cX0_isAtHand 15 = .ok (.ifCond .lt 17, 3) := by decide +kernel
theorem dX0_isAtHand_18 : decode cX0_isAtHand 18 = .ok (.aload_n 0, 1) := by decide +kernel
theorem dX0_isAtHand_19 : decode cX0_isAtHand 19 = .ok (.getfield 28, 3) := by decide +kernel
theorem dX0_isAtHand_22 : decode cX0_isAtHand 22 = .ok (.aload_n 0, 1) := by decide +kernel
theorem dX0_isAtHand_23 : decode cX0_isAtHand 23 = .ok (.getfield 31, 3) := by decide +kernel
theorem dX0_isAtHand_26 : decode cX0_isAtHand 26 = .ok (.iload_n 1, 1) := by decide +kernel
theorem dX0_isAtHand_27 : decode cX0_isAtHand 27 = .ok (.iaload, 1) := by decide +kernel
theorem dX0_isAtHand_28 : decode cX0_isAtHand 28 = .ok (.iaload, 1) := by decide +kernel
theorem dX0_isAtHand_29 : decode cX0_isAtHand 29 = .ok (.ifCond .ne 7, 3) := by decide +kernel
theorem dX0_isAtHand_32 : decode cX0_isAtHand 32 = .ok (.iconst 1, 1) := by decide +kernel
theorem dX0_isAtHand_33 : decode cX0_isAtHand 33 = .ok (.goto 4, 3) := by decide +kernel
theorem dX0_isAtHand_36 : decode cX0_isAtHand 36 = .ok (.iconst 0, 1) := by decide +kernel
theorem dX0_isAtHand_37 : decode cX0_isAtHand 37 = .ok (.ireturn, 1) := by decide +kernel
theorem dX0_handOf_0 : decode cX0_handOf 0 = .ok (.iconst 0, 1) := by decide +kernel
theorem dX0_handOf_1 : decode cX0_handOf 1 = .ok (.istore_n 2, 1) := by decide +kernel
theorem dX0_handOf_2 : decode cX0_handOf 2 = .ok (.iload_n 2, 1) := by decide +kernel
theorem dX0_handOf_3 : decode cX0_handOf 3 = .ok (.aload_n 0, 1) := by decide +kernel
theorem dX0_handOf_4 : decode cX0_handOf 4 = .ok (.getfield 58, 3) := by decide +kernel
theorem dX0_handOf_7 : decode cX0_handOf 7 = .ok (.if_icmp .ge 29, 3) := by decide +kernel
theorem dX0_handOf_10 : decode cX0_handOf 10 = .ok (.aload_n 0, 1) := by decide +kernel
theorem dX0_handOf_11 : decode cX0_handOf 11 = .ok (.getfield 25, 3) := by decide +kernel
theorem dX0_handOf_14 : decode cX0_handOf 14 = .ok (.iload_n 2, 1) := by decide +kernel
theorem dX0_handOf_15 : decode cX0_handOf 15 = .ok (.iaload, 1) := by decide +kernel
theorem dX0_handOf_16 : decode cX0_handOf 16 = .ok (.iload_n 1, 1) := by decide +kernel
theorem dX0_handOf_17 : decode cX0_handOf 17 = .ok (.if_icmp .ne 13, 3) := by decide +kernel
theorem dX0_handOf_20 : decode cX0_handOf 20 = .ok (.aload_n 0, 1) := by decide +kernel
theorem dX0_handOf_21 : decode cX0_handOf 21 = .ok (.iload_n 2, 1) := by decide +kernel
theorem dX0_handOf_22 : decode cX0_handOf 22 = .ok (.invokevirtual 111, 3) := by decide +kernel
theorem dX0_handOf_25 : decode cX0_handOf 25 = .ok (.ifCond .eq 5, 3) := by decide +kernel
theorem dX0_handOf_28 : decode cX0_handOf 28 = .ok (.iload_n 2, 1) := by decide +kernel
theorem dX0_handOf_29 : decode cX0_handOf 29 = .ok (.ireturn, 1) := by decide +kernel
theorem dX0_handOf_30 : decode cX0_handOf 30 = .ok (.iinc 2 1, 3) := by decide +kernel
theorem dX0_handOf_33 : decode cX0_handOf 33 = .ok (.goto (-31), 3) := by decide +kernel
theorem dX0_handOf_36 : decode cX0_handOf 36 = .ok (.iconst (-1), 1) := by decide +kernel
theorem dX0_handOf_37 : decode cX0_handOf 37 = .ok (.ireturn, 1) := by decide +kernel
theorem dX0_findHands_0 : decode cX0_findHands 0 = .ok (.aload_n 1, 1) := by decide +kernel
theorem dX0_findHands_1 : decode cX0_findHands 1 = .ok (.iconst (-1), 1) := by decide +kernel
theorem dX0_findHands_2 : decode cX0_findHands 2 = .ok (.invokestatic 49, 3) := by decide +kernel
theorem dX0_findHands_5 : decode cX0_findHands 5 = .ok (.aload_n 0, 1) := by decide +kernel
theorem dX0_findHands_6 : decode cX0_findHands 6 = .ok (.getfield 58, 3) := by decide +kernel
theorem dX0_findHands_9 : decode cX0_findHands 9 = .ok (.iconst 1, 1) := by decide +kernel
theorem dX0_findHands_10 : decode cX0_findHands 10 = .ok (.isub, 1) := by decide +kernel
theorem dX0_findHands_11 : decode cX0_findHands 11 = .ok (.istore_n 2, 1) := by decide +kernel
theorem dX0_findHands_12 : decode cX0_findHands 12 = .ok (.iload_n 2, 1) := by decide +kernel
theorem dX0_findHands_13 : decode cX0_findHands 13 = .ok (.ifCond .lt 26, 3) := by decide +kernel
theorem dX0_findHands_16 : decode cX0_findHands 16 = .ok (.aload_n 0, 1) := by decide +kernel
theorem dX0_findHands_17 : decode cX0_findHands 17 = .ok (.iload_n 2, 1) := by decide +kernel
theorem dX0_findHands_18 : decode cX0_findHands 18 = .ok (.invokevirtual 111, 3) := by decide +kernel
theorem dX0_findHands_21 : decode cX0_findHands 21 = .ok (.ifCond .eq 12, 3) := by decide +kernel
theorem dX0_findHands_24 : decode cX0_findHands 24 = .ok (.aload_n 1, 1) := by decide +kernel
theorem dX0_findHands_25 : decode cX0_findHands 25 = .ok (.aload_n 0, 1) := by decide +kernel
theorem dX0_findHands_26 : decode cX0_findHands 26 = .ok (.getfield 25, 3) := by decide +kernel
theorem dX0_findHands_29 : decode cX0_findHands 29 = .ok (.iload_n 2, 1) := by decide +kernel
theorem dX0_findHands_30 : decode cX0_findHands 30 = .ok (.iaload, 1) := by decide +kernel
theorem dX0_findHands_31 : decode cX0_findHands 31 = .ok (.iload_n 2, 1) := by decide +kernel
theorem dX0_findHands_32 : decode cX0_findHands 32 = .ok (.iastore, 1) := by decide +kernel
theorem dX0_findHands_33 : decode cX0_findHands 33 = .ok (.iinc 2 (-1), 3) := by decide +kernel
theorem dX0_findHands_36 : decode cX0_findHands 36 = .ok (.goto (-24), 3) := by decide +kernel
theorem dX0_findHands_39 : decode cX0_findHands 39 = .ok (.return_, 1) := by decide +kernel
theorem dX0_endedWorth_0 : decode cX0_endedWorth 0 = .ok (.iconst 0, 1) := by decide +kernel
theorem dX0_endedWorth_1 : decode cX0_endedWorth 1 = .ok (.istore_n 1, 1) := by decide +kernel
theorem dX0_endedWorth_2 : decode cX0_endedWorth 2 = .ok (.iconst 0, 1) := by decide +kernel
theorem dX0_endedWorth_3 : decode cX0_endedWorth 3 = .ok (.istore_n 2, 1) := by decide +kernel
theorem dX0_endedWorth_4 : decode cX0_endedWorth 4 = .ok (.iload_n 2, 1) := by decide +kernel
theorem dX0_endedWorth_5 : decode cX0_endedWorth 5 = .ok (.aload_n 0, 1) := by decide +kernel
theorem dX0_endedWorth_6 : decode cX0_endedWorth 6 = .ok (.getfield 58, 3) := by decide +kernel
theorem dX0_endedWorth_9 : decode cX0_endedWorth 9 = .ok (.if_icmp .ge 20, 3) := by decide +kernel
theorem dX0_endedWorth_12 : decode cX0_endedWorth 12 = .ok (.iload_n 1, 1) := by decide +kernel
theorem dX0_endedWorth_13 : decode cX0_endedWorth 13 = .ok (.iconst 1, 1) := by decide +kernel
theorem dX0_endedWorth_14 : decode cX0_endedWorth 14 = .ok (.aload_n 0, 1) := by decide +kernel
theorem dX0_endedWorth_15 : decode cX0_endedWorth 15 = .ok (.getfield 25, 3) := by decide +kernel
theorem dX0_endedWorth_18 : decode cX0_endedWorth 18 = .ok (.iload_n 2, 1) := by decide +kernel
theorem dX0_endedWorth_19 : decode cX0_endedWorth 19 = .ok (.iaload, 1) := by decide +kernel
theorem dX0_endedWorth_20 : decode cX0_endedWorth 20 = .ok (.ishl, 1) := by decide +kernel
theorem dX0_endedWorth_21 : decode cX0_endedWorth 21 = .ok (.ior, 1) := by decide +kernel
theorem dX0_endedWorth_22 : decode cX0_endedWorth 22 = .ok (.istore_n 1, 1) := by decide +kernel
theorem dX0_endedWorth_23 : decode cX0_endedWorth 23 = .ok (.iinc 2 1, 3) := by decide +kernel
theorem dX0_endedWorth_26 : decode cX0_endedWorth 26 = .ok (.goto (-22), 3) := by decide +kernel
theorem dX0_endedWorth_29 : decode cX0_endedWorth 29 = .ok (.aload_n 0, 1) := by decide +kernel
theorem dX0_endedWorth_30 : decode cX0_endedWorth 30 = .ok (.iload_n 1, 1) := by decide +kernel
theorem dX0_endedWorth_31 : decode cX0_endedWorth 31 = .ok (.aload_n 0, 1) := by decide +kernel
theorem dX0_endedWorth_32 : decode cX0_endedWorth 32 = .ok (.invokevirtual 91, 3) := by decide +kernel
theorem dX0_endedWorth_35 : decode cX0_endedWorth 35 = .ok (.iconst (-1), 1) := by decide +kernel
theorem dX0_endedWorth_36 : decode cX0_endedWorth 36 = .ok (.ixor, 1) := by decide +kernel
theorem dX0_endedWorth_37 : decode cX0_endedWorth 37 = .ok (.iand, 1) := by decide +kernel
theorem dX0_endedWorth_38 : decode cX0_endedWorth 38 = .ok (.invokevirtual 114, 3) := by decide +kernel
theorem dX0_endedWorth_41 : decode cX0_endedWorth 41 = .ok (.ireturn, 1) := by decide +kernel
theorem dX0_worthOf_0 : decode cX0_worthOf 0 = .ok (.iconst 0, 1) := by decide +kernel
theorem dX0_worthOf_1 : decode cX0_worthOf 1 = .ok (.istore_n 2, 1) := by decide +kernel
theorem dX0_worthOf_2 : decode cX0_worthOf 2 = .ok (.iconst 0, 1) := by decide +kernel
theorem dX0_worthOf_3 : decode cX0_worthOf 3 = .ok (.istore_n 3, 1) := by decide +kernel
theorem dX0_worthOf_4 : decode cX0_worthOf 4 = .ok (.iload_n 3, 1) := by decide +kernel
theorem dX0_worthOf_5 : decode cX0_worthOf 5 = .ok (.bipush 8, 2) := by decide +kernel
theorem dX0_worthOf_7 : decode cX0_worthOf 7 = .ok (.if_icmp .ge 27, 3) := by decide +kernel
theorem dX0_worthOf_10 : decode cX0_worthOf 10 = .ok (.iload_n 1, 1) := by decide +kernel
theorem dX0_worthOf_11 : decode cX0_worthOf 11 = .ok (.iload_n 3, 1) := by decide +kernel
theorem dX0_worthOf_12 : decode cX0_worthOf 12 = .ok (.iushr, 1) := by decide +kernel
theorem dX0_worthOf_13 : decode cX0_worthOf 13 = .ok (.iconst 1, 1) := by decide +kernel
theorem dX0_worthOf_14 : decode cX0_worthOf 14 = .ok (.iand, 1) := by decide +kernel
theorem dX0_worthOf_15 : decode cX0_worthOf 15 = .ok (.iconst 1, 1) := by decide +kernel
theorem dX0_worthOf_16 : decode cX0_worthOf 16 = .ok (.if_icmp .ne 12, 3) := by decide +kernel
theorem dX0_worthOf_19 : decode cX0_worthOf 19 = .ok (.iload_n 2, 1) := by decide +kernel
theorem dX0_worthOf_20 : decode cX0_worthOf 20 = .ok (.aload_n 0, 1) := by decide +kernel
theorem dX0_worthOf_21 : decode cX0_worthOf 21 = .ok (.getfield 15, 3) := by decide +kernel
theorem dX0_worthOf_24 : decode cX0_worthOf 24 = .ok (.iload_n 3, 1) := by decide +kernel
theorem dX0_worthOf_25 : decode cX0_worthOf 25 = .ok (.iaload, 1) := by decide +kernel
theorem dX0_worthOf_26 : decode cX0_worthOf 26 = .ok (.iadd, 1) := by decide +kernel
theorem dX0_worthOf_27 : decode cX0_worthOf 27 = .ok (.istore_n 2, 1) := by decide +kernel
theorem dX0_worthOf_28 : decode cX0_worthOf 28 = .ok (.iinc 3 1, 3) := by decide +kernel
theorem dX0_worthOf_31 : decode cX0_worthOf 31 = .ok (.goto (-27), 3) := by decide +kernel
theorem dX0_worthOf_34 : decode cX0_worthOf 34 = .ok (.iload_n 2, 1) := by decide +kernel
theorem dX0_worthOf_35 : decode cX0_worthOf 35 = .ok (.ireturn, 1) := by decide +kernel
theorem dX0_goneOfAll_0 : decode cX0_goneOfAll 0 = .ok (.iconst 0, 1) := by decide +kernel
theorem dX0_goneOfAll_1 : decode cX0_goneOfAll 1 = .ok (.istore_n 1, 1) := by decide +kernel
theorem dX0_goneOfAll_2 : decode cX0_goneOfAll 2 = .ok (.iconst 0, 1) := by decide +kernel
theorem dX0_goneOfAll_3 : decode cX0_goneOfAll 3 = .ok (.istore_n 2, 1) := by decide +kernel
theorem dX0_goneOfAll_4 : decode cX0_goneOfAll 4 = .ok (.iload_n 2, 1) := by decide +kernel
theorem dX0_goneOfAll_5 : decode cX0_goneOfAll 5 = .ok (.bipush 8, 2) := by decide +kernel
theorem dX0_goneOfAll_7 : decode cX0_goneOfAll 7 = .ok (.if_icmp .ge 18, 3) := by decide +kernel
theorem dX0_goneOfAll_10 : decode cX0_goneOfAll 10 = .ok (.iload_n 1, 1) := by decide +kernel
theorem dX0_goneOfAll_11 : decode cX0_goneOfAll 11 = .ok (.aload_n 0, 1) := by decide +kernel
theorem dX0_goneOfAll_12 : decode cX0_goneOfAll 12 = .ok (.getfield 19, 3) := by decide +kernel
theorem dX0_goneOfAll_15 : decode cX0_goneOfAll 15 = .ok (.iload_n 2, 1) := by decide +kernel
theorem dX0_goneOfAll_16 : decode cX0_goneOfAll 16 = .ok (.iaload, 1) := by decide +kernel
theorem dX0_goneOfAll_17 : decode cX0_goneOfAll 17 = .ok (.iadd, 1) := by decide +kernel
theorem dX0_goneOfAll_18 : decode cX0_goneOfAll 18 = .ok (.istore_n 1, 1) := by decide +kernel
theorem dX0_goneOfAll_19 : decode cX0_goneOfAll 19 = .ok (.iinc 2 1, 3) := by decide +kernel
theorem dX0_goneOfAll_22 : decode cX0_goneOfAll 22 = .ok (.goto (-18), 3) := by decide +kernel
theorem dX0_goneOfAll_25 : decode cX0_goneOfAll 25 = .ok (.iload_n 1, 1) := by decide +kernel
theorem dX0_goneOfAll_26 : decode cX0_goneOfAll 26 = .ok (.ireturn, 1) := by decide +kernel
theorem dX1_init_0 : decode cX1_init 0 = .ok (.aload_n 0, 1) := by decide +kernel
theorem dX1_init_1 : decode cX1_init 1 = .ok (.invokespecial 3, 3) := by decide +kernel
theorem dX1_init_4 : decode cX1_init 4 = .ok (.aload_n 0, 1) := by decide +kernel
theorem dX1_init_5 : decode cX1_init 5 = .ok (.iconst 4, 1) := by decide +kernel
theorem dX1_init_6 : decode cX1_init 6 = .ok (.newarray .int, 2) := by decide +kernel
theorem dX1_init_8 : decode cX1_init 8 = .ok (.putfield 11, 3) := by decide +kernel
theorem dX1_init_11 : decode cX1_init 11 = .ok (.aload_n 0, 1) := by decide +kernel
theorem dX1_init_12 : decode cX1_init 12 = .ok (.iconst 4, 1) := by decide +kernel
theorem dX1_init_13 : decode cX1_init 13 = .ok (.newarray .int, 2) := by decide +kernel
theorem dX1_init_15 : decode cX1_init 15 = .ok (.putfield 15, 3) := by decide +kernel
theorem dX1_init_18 : decode cX1_init 18 = .ok (.aload_n 0, 1) := by decide +kernel
theorem dX1_init_19 : decode cX1_init 19 = .ok (.iconst 4, 1) := by decide +kernel
theorem dX1_init_20 : decode cX1_init 20 = .ok (.newarray .int, 2) := by decide +kernel
theorem dX1_init_22 : decode cX1_init 22 = .ok (.putfield 18, 3) := by decide +kernel
theorem dX1_init_25 : decode cX1_init 25 = .ok (.aload_n 0, 1) := by decide +kernel
theorem dX1_init_26 : decode cX1_init 26 = .ok (.bipush 32, 2) := by decide +kernel
theorem dX1_init_28 : decode cX1_init 28 = .ok (.newarray .int, 2) := by decide +kernel
theorem dX1_init_30 : decode cX1_init 30 = .ok (.putfield 21, 3) := by decide +kernel
theorem dX1_init_33 : decode cX1_init 33 = .ok (.aload_n 0, 1) := by decide +kernel
theorem dX1_init_34 : decode cX1_init 34 = .ok (.iconst 5, 1) := by decide +kernel
theorem dX1_init_35 : decode cX1_init 35 = .ok (.newarray .int, 2) := by decide +kernel
theorem dX1_init_37 : decode cX1_init 37 = .ok (.putfield 24, 3) := by decide +kernel
theorem dX1_init_40 : decode cX1_init 40 = .ok (.aload_n 0, 1) := by decide +kernel
theorem dX1_init_41 : decode cX1_init 41 = .ok (.aload_n 1, 1) := by decide +kernel
theorem dX1_init_42 : decode cX1_init 42 = .ok (.putfield 27, 3) := by decide +kernel
theorem dX1_init_45 : decode cX1_init 45 = .ok (.aload_n 0, 1) := by decide +kernel
theorem dX1_init_46 : decode cX1_init 46 = .ok (.aload_n 2, 1) := by decide +kernel
theorem dX1_init_47 : decode cX1_init 47 = .ok (.putfield 31, 3) := by decide +kernel
theorem dX1_init_50 : decode cX1_init 50 = .ok (.return_, 1) := by decide +kernel
theorem dX1_gather_0 : decode cX1_gather 0 = .ok (.aload_n 0, 1) := by decide +kernel
theorem dX1_gather_1 : decode cX1_gather 1 = .ok (.iconst 0, 1) := by decide +kernel
theorem dX1_gather_2 : decode cX1_gather 2 = .ok (.putfield 35, 3) := by decide +kernel
theorem dX1_gather_5 : decode cX1_gather 5 = .ok (.iconst 0, 1) := by decide +kernel
theorem dX1_gather_6 : decode cX1_gather 6 = .ok (.istore_n 2, 1) := by decide +kernel
theorem dX1_gather_7 : decode cX1_gather 7 = .ok (.iload_n 2, 1) := by decide +kernel
theorem dX1_gather_8 : decode cX1_gather 8 = .ok (.aload_n 1, 1) := by decide +kernel
theorem dX1_gather_9 : decode cX1_gather 9 = .ok (.getfield 39, 3) := by decide +kernel
theorem dX1_gather_12 : decode cX1_gather 12 = .ok (.if_icmp .ge 59, 3) := by decide +kernel
theorem dX1_gather_15 : decode cX1_gather 15 = .ok (.aload_n 1, 1) := by decide +kernel
theorem dX1_gather_16 : decode cX1_gather 16 = .ok (.getfield 44, 3) := by decide +kernel
theorem dX1_gather_19 : decode cX1_gather 19 = .ok (.iload_n 2, 1) := by decide +kernel
theorem dX1_gather_20 : decode cX1_gather 20 = .ok (.iaload, 1) := by decide +kernel
theorem dX1_gather_21 : decode cX1_gather 21 = .ok (.ifCond .ge 44, 3) := by decide +kernel
theorem dX1_gather_24 : decode cX1_gather 24 = .ok (.aload_n 1, 1) := by decide +kernel
theorem dX1_gather_25 : decode cX1_gather 25 = .ok (.getfield 47, 3) := by decide +kernel
theorem dX1_gather_28 : decode cX1_gather 28 = .ok (.iload_n 2, 1) := by decide +kernel
theorem dX1_gather_29 : decode cX1_gather 29 = .ok (.iaload, 1) := by decide +kernel
theorem dX1_gather_30 : decode cX1_gather 30 = .ok (.bipush 40, 2) := by decide +kernel
theorem dX1_gather_32 : decode cX1_gather 32 = .ok (.if_icmp .lt 6, 3) := by decide +kernel
theorem dX1_gather_35 : decode cX1_gather 35 = .ok (.goto 30, 3) := by decide +kernel
theorem dX1_gather_38 : decode cX1_gather 38 = .ok (.aload_n 0, 1) := by decide +kernel
theorem dX1_gather_39 : decode cX1_gather 39 = .ok (.getfield 35, 3) := by decide +kernel
theorem dX1_gather_42 : decode cX1_gather 42 = .ok (.iconst 4, 1) := by decide +kernel
theorem dX1_gather_43 : decode cX1_gather 43 = .ok (.if_icmp .lt 5, 3) := by decide +kernel
theorem dX1_gather_46 : decode cX1_gather 46 = .ok (.iconst 0, 1) := by decide +kernel
theorem dX1_gather_47 : decode cX1_gather 47 = .ok (.ireturn, 1) := by decide +kernel
theorem dX1_gather_48 : decode cX1_gather 48 = .ok (.aload_n 0, 1) := by decide +kernel
theorem dX1_gather_49 : decode cX1_gather 49 = .ok (.getfield 11, 3) := by decide +kernel
theorem dX1_gather_52 : decode cX1_gather 52 = .ok (.aload_n 0, 1) := by decide +kernel
theorem dX1_gather_53 : decode cX1_gather 53 = .ok (.dup, 1) := by decide +kernel
theorem dX1_gather_54 : decode cX1_gather 54 = .ok (.getfield 35, 3) := by decide +kernel
theorem dX1_gather_57 : decode cX1_gather 57 = .ok (.dup_x1, 1) := by decide +kernel
theorem dX1_gather_58 : decode cX1_gather 58 = .ok (.iconst 1, 1) := by decide +kernel
theorem dX1_gather_59 : decode cX1_gather 59 = .ok (.iadd, 1) := by decide +kernel
theorem dX1_gather_60 : decode cX1_gather 60 = .ok (.putfield 35, 3) := by decide +kernel
theorem dX1_gather_63 : decode cX1_gather 63 = .ok (.iload_n 2, 1) := by decide +kernel
theorem dX1_gather_64 : decode cX1_gather 64 = .ok (.iastore, 1) := by decide +kernel
theorem dX1_gather_65 : decode cX1_gather 65 = .ok (.iinc 2 1, 3) := by decide +kernel
theorem dX1_gather_68 : decode cX1_gather 68 = .ok (.goto (-61), 3) := by decide +kernel
theorem dX1_gather_71 : decode cX1_gather 71 = .ok (.iconst 1, 1) := by decide +kernel
theorem dX1_gather_72 : decode cX1_gather 72 = .ok (.ireturn, 1) := by decide +kernel
theorem dX1_begin_0 : decode cX1_begin 0 = .ok (.aload_n 0, 1) := by decide +kernel
theorem dX1_begin_1 : decode cX1_begin 1 = .ok (.iconst (-1), 1) := by decide +kernel
theorem dX1_begin_2 : decode cX1_begin 2 = .ok (.putfield 50, 3) := by decide +kernel
theorem dX1_begin_5 : decode cX1_begin 5 = .ok (.aload_n 0, 1) := by decide +kernel
theorem dX1_begin_6 : decode cX1_begin 6 = .ok (.aload_n 1, 1) := by decide +kernel
theorem dX1_begin_7 : decode cX1_begin 7 = .ok (.iload_n 2, 1) := by decide +kernel
theorem dX1_begin_8 : decode cX1_begin 8 = .ok (.invokevirtual 53, 3) := by decide +kernel
theorem dX1_begin_11 : decode cX1_begin 11 = .ok (.aload_n 0, 1) := by decide +kernel
theorem dX1_begin_12 : decode cX1_begin 12 = .ok (.aload_n 1, 1) := by decide +kernel
theorem dX1_begin_13 : decode cX1_begin 13 = .ok (.invokevirtual 57, 3) := by decide +kernel
theorem dX1_begin_16 : decode cX1_begin 16 = .ok (.putfield 61, 3) := by decide +kernel
theorem dX1_begin_19 : decode cX1_begin 19 = .ok (.iconst 0, 1) := by decide +kernel
theorem dX1_begin_20 : decode cX1_begin 20 = .ok (.istore_n 3, 1) := by decide +kernel
theorem dX1_begin_21 : decode cX1_begin 21 = .ok (.iload_n 3, 1) := by decide +kernel
theorem dX1_begin_22 : decode cX1_begin 22 = .ok (.aload_n 1, 1) := by decide +kernel
theorem dX1_begin_23 : decode cX1_begin 23 = .ok (.getfield 39, 3) := by decide +kernel
theorem dX1_begin_26 : decode cX1_begin 26 = .ok (.if_icmp .ge 52, 3) := by decide +kernel
theorem dX1_begin_29 : decode cX1_begin 29 = .ok (.aload_n 1, 1) := by decide +kernel
theorem dX1_begin_30 : decode cX1_begin 30 = .ok (.getfield 44, 3) := by decide +kernel
theorem dX1_begin_33 : decode cX1_begin 33 = .ok (.iload_n 3, 1) := by decide +kernel
theorem dX1_begin_34 : decode cX1_begin 34 = .ok (.iaload, 1) := by decide +kernel
theorem dX1_begin_35 : decode cX1_begin 35 = .ok (.ifCond .lt 37, 3) := by decide +kernel
theorem dX1_begin_38 : decode cX1_begin 38 = .ok (.aload_n 1, 1) := by decide +kernel
theorem dX1_begin_39 : decode cX1_begin 39 = .ok (.aload_n 1, 1) := by decide +kernel
theorem dX1_begin_40 : decode cX1_begin 40 = .ok (.getfield 44, 3) := by decide +kernel
theorem dX1_begin_43 : decode cX1_begin 43 = .ok (.iload_n 3, 1) := by decide +kernel
theorem dX1_begin_44 : decode cX1_begin 44 = .ok (.iaload, 1) := by decide +kernel
theorem dX1_begin_45 : decode cX1_begin 45 = .ok (.invokevirtual 64, 3) := by decide +kernel
theorem dX1_begin_48 : decode cX1_begin 48 = .ok (.ifCond .eq 24, 3) := by decide +kernel
theorem dX1_begin_51 : decode cX1_begin 51 = .ok (.aload_n 0, 1) := by decide +kernel
theorem dX1_begin_52 : decode cX1_begin 52 = .ok (.dup, 1) := by decide +kernel
theorem dX1_begin_53 : decode cX1_begin 53 = .ok (.getfield 61, 3) := by decide +kernel
theorem dX1_begin_56 : decode cX1_begin 56 = .ok (.aload_n 1, 1) := by decide +kernel
theorem dX1_begin_57 : decode cX1_begin 57 = .ok (.iload_n 3, 1) := by decide +kernel
theorem dX1_begin_58 : decode cX1_begin 58 = .ok (.aload_n 1, 1) := by decide +kernel
theorem dX1_begin_59 : decode cX1_begin 59 = .ok (.getfield 44, 3) := by decide +kernel
theorem dX1_begin_62 : decode cX1_begin 62 = .ok (.iload_n 3, 1) := by decide +kernel
theorem dX1_begin_63 : decode cX1_begin 63 = .ok (.iaload, 1) := by decide +kernel
theorem dX1_begin_64 : decode cX1_begin 64 = .ok (.iload_n 2, 1) := by decide +kernel
theorem dX1_begin_65 : decode cX1_begin 65 = .ok (.invokestatic 68, 3) := by decide +kernel
theorem dX1_begin_68 : decode cX1_begin 68 = .ok (.iadd, 1) := by decide +kernel
theorem dX1_begin_69 : decode cX1_begin 69 = .ok (.putfield 61, 3) := by decide +kernel
theorem dX1_begin_72 : decode cX1_begin 72 = .ok (.iinc 3 1, 3) := by decide +kernel
theorem dX1_begin_75 : decode cX1_begin 75 = .ok (.goto (-54), 3) := by decide +kernel
theorem dX1_begin_78 : decode cX1_begin 78 = .ok (.return_, 1) := by decide +kernel
theorem dX1_findGains_0 : decode cX1_findGains 0 = .ok (.aload_n 1, 1) := by decide +kernel
theorem dX1_findGains_1 : decode cX1_findGains 1 = .ok (.invokevirtual 72, 3) := by decide +kernel
theorem dX1_findGains_4 : decode cX1_findGains 4 = .ok (.istore_n 3, 1) := by decide +kernel
theorem dX1_findGains_5 : decode cX1_findGains 5 = .ok (.aload_n 0, 1) := by decide +kernel
theorem dX1_findGains_6 : decode cX1_findGains 6 = .ok (.getfield 24, 3) := by decide +kernel
theorem dX1_findGains_9 : decode cX1_findGains 9 = .ok (.aload_n 0, 1) := by decide +kernel
theorem dX1_findGains_10 : decode cX1_findGains 10 = .ok (.getfield 35, 3) := by decide +kernel
theorem dX1_findGains_13 : decode cX1_findGains 13 = .ok (.iconst 0, 1) := by decide +kernel
theorem dX1_findGains_14 : decode cX1_findGains 14 = .ok (.iastore, 1) := by decide +kernel
theorem dX1_findGains_15 : decode cX1_findGains 15 = .ok (.aload_n 0, 1) := by decide +kernel
theorem dX1_findGains_16 : decode cX1_findGains 16 = .ok (.getfield 35, 3) := by decide +kernel
theorem dX1_findGains_19 : decode cX1_findGains 19 = .ok (.iconst 1, 1) := by decide +kernel
theorem dX1_findGains_20 : decode cX1_findGains 20 = .ok (.isub, 1) := by decide +kernel
theorem dX1_findGains_21 : decode cX1_findGains 21 = .ok (.istore 4, 2) := by decide +kernel
theorem dX1_findGains_23 : decode cX1_findGains 23 = .ok (.iload 4, 2) := by decide +kernel
theorem dX1_findGains_25 : decode cX1_findGains 25 = .ok (.ifCond .lt 101, 3) := by decide +kernel
theorem dX1_findGains_28 : decode cX1_findGains 28 = .ok (.iconst 0, 1) := by decide +kernel
theorem dX1_findGains_29 : decode cX1_findGains 29 = .ok (.istore 5, 2) := by decide +kernel
theorem dX1_findGains_31 : decode cX1_findGains 31 = .ok (.iconst 0, 1) := by decide +kernel
theorem dX1_findGains_32 : decode cX1_findGains 32 = .ok (.istore 6, 2) := by decide +kernel
theorem dX1_findGains_34 : decode cX1_findGains 34 = .ok (.iload 6, 2) := by decide +kernel
theorem dX1_findGains_36 : decode cX1_findGains 36 = .ok (.bipush 8, 2) := by decide +kernel
theorem dX1_findGains_38 : decode cX1_findGains 38 = .ok (.if_icmp .ge 63, 3) := by decide +kernel
theorem dX1_findGains_41 : decode cX1_findGains 41 = .ok (.iload_n 3, 1) := by decide +kernel
theorem dX1_findGains_42 : decode cX1_findGains 42 = .ok (.iload 6, 2) := by decide +kernel
theorem dX1_findGains_44 : decode cX1_findGains 44 = .ok (.iushr, 1) := by decide +kernel
theorem dX1_findGains_45 : decode cX1_findGains 45 = .ok (.iconst 1, 1) := by decide +kernel
theorem dX1_findGains_46 : decode cX1_findGains 46 = .ok (.iand, 1) := by decide +kernel
theorem dX1_findGains_47 : decode cX1_findGains 47 = .ok (.iconst 1, 1) := by decide +kernel
theorem dX1_findGains_48 : decode cX1_findGains 48 = .ok (.if_icmp .ne 20, 3) := by decide +kernel
theorem dX1_findGains_51 : decode cX1_findGains 51 = .ok (.aload_n 1, 1) := by decide +kernel
theorem dX1_findGains_52 : decode cX1_findGains 52 = .ok (.aload_n 0, 1) := by decide +kernel
theorem dX1_findGains_53 : decode cX1_findGains 53 = .ok (.getfield 11, 3) := by decide +kernel
theorem dX1_findGains_56 : decode cX1_findGains 56 = .ok (.iload 4, 2) := by decide +kernel
theorem dX1_findGains_58 : decode cX1_findGains 58 = .ok (.iaload, 1) := by decide +kernel
theorem dX1_findGains_59 : decode cX1_findGains 59 = .ok (.iload 6, 2) := by decide +kernel
theorem dX1_findGains_61 : decode cX1_findGains 61 = .ok (.iload_n 2, 1) := by decide +kernel
theorem dX1_findGains_62 : decode cX1_findGains 62 = .ok (.invokestatic 68, 3) := by decide +kernel
theorem dX1_findGains_65 : decode cX1_findGains 65 = .ok (.goto 4, 3) := by decide +kernel
theorem dX1_findGains_68 : decode cX1_findGains 68 = .ok (.iconst 0, 1) := by decide +kernel
theorem dX1_findGains_69 : decode cX1_findGains 69 = .ok (.istore 7, 2) := by decide +kernel
theorem dX1_findGains_71 : decode cX1_findGains 71 = .ok (.aload_n 0, 1) := by decide +kernel
theorem dX1_findGains_72 : decode cX1_findGains 72 = .ok (.getfield 21, 3) := by decide +kernel
theorem dX1_findGains_75 : decode cX1_findGains 75 = .ok (.iload 4, 2) := by decide +kernel
theorem dX1_findGains_77 : decode cX1_findGains 77 = .ok (.bipush 8, 2) := by decide +kernel
theorem dX1_findGains_79 : decode cX1_findGains 79 = .ok (.imul, 1) := by decide +kernel
theorem dX1_findGains_80 : decode cX1_findGains 80 = .ok (.iload 6, 2) := by decide +kernel
theorem dX1_findGains_82 : decode cX1_findGains 82 = .ok (.iadd, 1) := by decide +kernel
theorem dX1_findGains_83 : decode cX1_findGains 83 = .ok (.iload 7, 2) := by decide +kernel
theorem dX1_findGains_85 : decode cX1_findGains 85 = .ok (.iastore, 1) := by decide +kernel
theorem dX1_findGains_86 : decode cX1_findGains 86 = .ok (.iload 5, 2) := by decide +kernel
theorem dX1_findGains_88 : decode cX1_findGains 88 = .ok (.iload 7, 2) := by decide +kernel
theorem dX1_findGains_90 : decode cX1_findGains 90 = .ok (.invokestatic 75, 3) := by decide +kernel
theorem dX1_findGains_93 : decode cX1_findGains 93 = .ok (.istore 5, 2) := by decide +kernel
theorem dX1_findGains_95 : decode cX1_findGains 95 = .ok (.iinc 6 1, 3) := by decide +kernel
theorem dX1_findGains_98 : decode cX1_findGains 98 = .ok (.goto (-64), 3) := by decide +kernel
theorem dX1_findGains_101 : decode cX1_findGains 101 = .ok (.aload_n 0, 1) := by decide +kernel
theorem dX1_findGains_102 : decode cX1_findGains 102 = .ok (.getfield 24, 3) := by decide +kernel
theorem dX1_findGains_105 : decode cX1_findGains 105 = .ok (.iload 4, 2) := by decide +kernel
theorem dX1_findGains_107 : decode cX1_findGains 107 = .ok (.aload_n 0, 1) := by decide +kernel
theorem dX1_findGains_108 : decode cX1_findGains 108 = .ok (.getfield 24, 3) := by decide +kernel
theorem dX1_findGains_111 : decode cX1_findGains 111 = .ok (.iload 4, 2) := by decide +kernel
theorem dX1_findGains_113 : decode cX1_findGains 113 = .ok (.iconst 1, 1) := by decide +kernel
theorem dX1_findGains_114 : decode cX1_findGains 114 = .ok (.iadd, 1) := by decide +kernel
theorem dX1_findGains_115 : decode cX1_findGains 115 = .ok (.iaload, 1) := by decide +kernel
theorem dX1_findGains_116 : decode cX1_findGains 116 = .ok (.iload 5, 2) := by decide +kernel
theorem dX1_findGains_118 : decode cX1_findGains 118 = .ok (.iadd, 1) := by decide +kernel
theorem dX1_findGains_119 : decode cX1_findGains 119 = .ok (.iastore, 1) := by decide +kernel
theorem dX1_findGains_120 : decode cX1_findGains 120 = .ok (.iinc 4 (-1), 3) := by decide +kernel
theorem dX1_findGains_123 : decode cX1_findGains 123 = .ok (.goto (-100), 3) := by decide +kernel
theorem dX1_findGains_126 : decode cX1_findGains 126 = .ok (.return_, 1) := by decide +kernel
theorem dX1_gainOf_0 : decode cX1_gainOf 0 = .ok (.aload_n 0, 1) := by decide +kernel
theorem dX1_gainOf_1 : decode cX1_gainOf 1 = .ok (.iload_n 2, 1) := by decide +kernel
theorem dX1_gainOf_2 : decode cX1_gainOf 2 = .ok (.invokevirtual 81, 3) := by decide +kernel
theorem dX1_gainOf_5 : decode cX1_gainOf 5 = .ok (.aload_n 0, 1) := by decide +kernel
theorem dX1_gainOf_6 : decode cX1_gainOf 6 = .ok (.iload_n 1, 1) := by decide +kernel
theorem dX1_gainOf_7 : decode cX1_gainOf 7 = .ok (.iload_n 2, 1) := by decide +kernel
theorem dX1_gainOf_8 : decode cX1_gainOf 8 = .ok (.iload_n 3, 1) := by decide +kernel
theorem dX1_gainOf_9 : decode cX1_gainOf 9 = .ok (.invokevirtual 85, 3) := by decide +kernel
theorem dX1_gainOf_12 : decode cX1_gainOf 12 = .ok (.if_icmp .le 7, 3) := by decide +kernel
theorem dX1_gainOf_15 : decode cX1_gainOf 15 = .ok (.iconst 0, 1) := by decide +kernel
theorem dX1_gainOf_16 : decode cX1_gainOf 16 = .ok (.goto 9, 3) := by decide +kernel
theorem dX1_gainOf_19 : decode cX1_gainOf 19 = .ok (.aload_n 0, 1) := by decide +kernel
theorem dX1_gainOf_20 : decode cX1_gainOf 20 = .ok (.getfield 89, 3) := by decide +kernel
theorem dX1_gainOf_23 : decode cX1_gainOf 23 = .ok (.iload_n 2, 1) := by decide +kernel
theorem dX1_gainOf_24 : decode cX1_gainOf 24 = .ok (.iaload, 1) := by decide +kernel
theorem dX1_gainOf_25 : decode cX1_gainOf 25 = .ok (.ireturn, 1) := by decide +kernel
theorem dX1_weighFrom_0 : decode cX1_weighFrom 0 = .ok (.iload 5, 2) := by decide +kernel
theorem dX1_weighFrom_2 : decode cX1_weighFrom 2 = .ok (.aload_n 0, 1) := by decide +kernel
theorem dX1_weighFrom_3 : decode cX1_weighFrom 3 = .ok (.getfield 24, 3) := by decide +kernel
theorem dX1_weighFrom_6 : decode cX1_weighFrom 6 = .ok (.iload_n 3, 1) := by decide +kernel
theorem dX1_weighFrom_7 : decode cX1_weighFrom 7 = .ok (.iaload, 1) := by decide +kernel
theorem dX1_weighFrom_8 : decode cX1_weighFrom 8 = .ok (.iadd, 1) := by decide +kernel
theorem dX1_weighFrom_9 : decode cX1_weighFrom 9 = .ok (.aload_n 0, 1) := by decide +kernel
theorem dX1_weighFrom_10 : decode cX1_weighFrom 10 = .ok (.getfield 50, 3) := by decide +kernel
theorem dX1_weighFrom_13 : decode cX1_weighFrom 13 = .ok (.if_icmp .gt 4, 3) := by decide +kernel
theorem dX1_weighFrom_16 : decode cX1_weighFrom 16 = .ok (.return_, 1) := by decide +kernel
theorem dX1_weighFrom_17 : decode cX1_weighFrom 17 = .ok (.iload_n 3, 1) := by decide +kernel
theorem dX1_weighFrom_18 : decode cX1_weighFrom 18 = .ok (.aload_n 0, 1) := by decide +kernel
theorem dX1_weighFrom_19 : decode cX1_weighFrom 19 = .ok (.getfield 35, 3) := by decide +kernel
theorem dX1_weighFrom_22 : decode cX1_weighFrom 22 = .ok (.if_icmp .lt 10, 3) := by decide +kernel
theorem dX1_weighFrom_25 : decode cX1_weighFrom 25 = .ok (.aload_n 0, 1) := by decide +kernel
theorem dX1_weighFrom_26 : decode cX1_weighFrom 26 = .ok (.aload_n 1, 1) := by decide +kernel
theorem dX1_weighFrom_27 : decode cX1_weighFrom 27 = .ok (.iload_n 2, 1) := by decide +kernel
theorem dX1_weighFrom_28 : decode cX1_weighFrom 28 = .ok (.invokevirtual 92, 3) := by decide +kernel
theorem dX1_weighFrom_31 : decode cX1_weighFrom 31 = .ok (.return_, 1) := by decide +kernel
theorem dX1_weighFrom_32 : decode cX1_weighFrom 32 = .ok (.aload_n 0, 1) := by decide +kernel
theorem dX1_weighFrom_33 : decode cX1_weighFrom 33 = .ok (.getfield 15, 3) := by decide +kernel
theorem dX1_weighFrom_36 : decode cX1_weighFrom 36 = .ok (.iload_n 3, 1) := by decide +kernel
theorem dX1_weighFrom_37 : decode cX1_weighFrom 37 = .ok (.iconst (-1), 1) := by decide +kernel
theorem dX1_weighFrom_38 : decode cX1_weighFrom 38 = .ok (.iastore, 1) := by decide +kernel
theorem dX1_weighFrom_39 : decode cX1_weighFrom 39 = .ok (.aload_n 0, 1) := by decide +kernel
theorem dX1_weighFrom_40 : decode cX1_weighFrom 40 = .ok (.aload_n 1, 1) := by decide +kernel
theorem dX1_weighFrom_41 : decode cX1_weighFrom 41 = .ok (.iload_n 2, 1) := by decide +kernel
theorem dX1_weighFrom_42 : decode cX1_weighFrom 42 = .ok (.iload_n 3, 1) := by decide +kernel
theorem dX1_weighFrom_43 : decode cX1_weighFrom 43 = .ok (.iconst 1, 1) := by decide +kernel
theorem dX1_weighFrom_44 : decode cX1_weighFrom 44 = .ok (.iadd, 1) := by decide +kernel
theorem dX1_weighFrom_45 : decode cX1_weighFrom 45 = .ok (.iload 4, 2) := by decide +kernel
theorem dX1_weighFrom_47 : decode cX1_weighFrom 47 = .ok (.iload 5, 2) := by decide +kernel
theorem dX1_weighFrom_49 : decode cX1_weighFrom 49 = .ok (.invokevirtual 95, 3) := by decide +kernel
theorem dX1_weighFrom_52 : decode cX1_weighFrom 52 = .ok (.iconst 0, 1) := by decide +kernel
theorem dX1_weighFrom_53 : decode cX1_weighFrom 53 = .ok (.istore 6, 2) := by decide +kernel
theorem dX1_weighFrom_55 : decode cX1_weighFrom 55 = .ok (.iload 6, 2) := by decide +kernel
theorem dX1_weighFrom_57 : decode cX1_weighFrom 57 = .ok (.bipush 8, 2) := by decide +kernel
theorem dX1_weighFrom_59 : decode cX1_weighFrom 59 = .ok (.if_icmp .ge 61, 3) := by decide +kernel
theorem dX1_weighFrom_62 : decode cX1_weighFrom 62 = .ok (.iload 4, 2) := by decide +kernel
theorem dX1_weighFrom_64 : decode cX1_weighFrom 64 = .ok (.iload 6, 2) := by decide +kernel
theorem dX1_weighFrom_66 : decode cX1_weighFrom 66 = .ok (.iushr, 1) := by decide +kernel
theorem dX1_weighFrom_67 : decode cX1_weighFrom 67 = .ok (.iconst 1, 1) := by decide +kernel
theorem dX1_weighFrom_68 : decode cX1_weighFrom 68 = .ok (.iand, 1) := by decide +kernel
theorem dX1_weighFrom_69 : decode cX1_weighFrom 69 = .ok (.iconst 1, 1) := by decide +kernel
theorem dX1_weighFrom_70 : decode cX1_weighFrom 70 = .ok (.if_icmp .ne 44, 3) := by decide +kernel
theorem dX1_weighFrom_73 : decode cX1_weighFrom 73 = .ok (.aload_n 0, 1) := by decide +kernel
theorem dX1_weighFrom_74 : decode cX1_weighFrom 74 = .ok (.getfield 15, 3) := by decide +kernel
theorem dX1_weighFrom_77 : decode cX1_weighFrom 77 = .ok (.iload_n 3, 1) := by decide +kernel
theorem dX1_weighFrom_78 : decode cX1_weighFrom 78 = .ok (.iload 6, 2) := by decide +kernel
theorem dX1_weighFrom_80 : decode cX1_weighFrom 80 = .ok (.iastore, 1) := by decide +kernel
theorem dX1_weighFrom_81 : decode cX1_weighFrom 81 = .ok (.aload_n 0, 1) := by decide +kernel
theorem dX1_weighFrom_82 : decode cX1_weighFrom 82 = .ok (.aload_n 1, 1) := by decide +kernel
theorem dX1_weighFrom_83 : decode cX1_weighFrom 83 = .ok (.iload_n 2, 1) := by decide +kernel
theorem dX1_weighFrom_84 : decode cX1_weighFrom 84 = .ok (.iload_n 3, 1) := by decide +kernel
theorem dX1_weighFrom_85 : decode cX1_weighFrom 85 = .ok (.iconst 1, 1) := by decide +kernel
theorem dX1_weighFrom_86 : decode cX1_weighFrom 86 = .ok (.iadd, 1) := by decide +kernel
theorem dX1_weighFrom_87 : decode cX1_weighFrom 87 = .ok (.iload 4, 2) := by decide +kernel
theorem dX1_weighFrom_89 : decode cX1_weighFrom 89 = .ok (.iconst 1, 1) := by decide +kernel
theorem dX1_weighFrom_90 : decode cX1_weighFrom 90 = .ok (.iload 6, 2) := by decide +kernel
theorem dX1_weighFrom_92 : decode cX1_weighFrom 92 = .ok (.ishl, 1) := by decide +kernel
theorem dX1_weighFrom_93 : decode cX1_weighFrom 93 = .ok (.iconst (-1), 1) := by decide +kernel
theorem dX1_weighFrom_94 : decode cX1_weighFrom 94 = .ok (.ixor, 1) := by decide +kernel
theorem dX1_weighFrom_95 : decode cX1_weighFrom 95 = .ok (.iand, 1) := by decide +kernel
theorem dX1_weighFrom_96 : decode cX1_weighFrom 96 = .ok (.iload 5, 2) := by decide +kernel
theorem dX1_weighFrom_98 : decode cX1_weighFrom 98 = .ok (.aload_n 0, 1) := by decide +kernel
theorem dX1_weighFrom_99 : decode cX1_weighFrom 99 = .ok (.getfield 21, 3) := by decide +kernel
theorem dX1_weighFrom_102 : decode cX1_weighFrom 102 = .ok (.iload_n 3, 1) := by decide +kernel
theorem dX1_weighFrom_103 : decode cX1_weighFrom 103 = .ok (.bipush 8, 2) := by decide +kernel
theorem dX1_weighFrom_105 : decode cX1_weighFrom 105 = .ok (.imul, 1) := by decide +kernel
theorem dX1_weighFrom_106 : decode cX1_weighFrom 106 = .ok (.iload 6, 2) := by decide +kernel
theorem dX1_weighFrom_108 : decode cX1_weighFrom 108 = .ok (.iadd, 1) := by decide +kernel
theorem dX1_weighFrom_109 : decode cX1_weighFrom 109 = .ok (.iaload, 1) := by decide +kernel
theorem dX1_weighFrom_110 : decode cX1_weighFrom 110 = .ok (.iadd, 1) := by decide +kernel
theorem dX1_weighFrom_111 : decode cX1_weighFrom 111 = .ok (.invokevirtual 95, 3) := by decide +kernel
theorem dX1_weighFrom_114 : decode cX1_weighFrom 114 = .ok (.iinc 6 1, 3) := by decide +kernel
theorem dX1_weighFrom_117 : decode cX1_weighFrom 117 = .ok (.goto (-62), 3) := by decide +kernel
theorem dX1_weighFrom_120 : decode cX1_weighFrom 120 = .ok (.return_, 1) := by decide +kernel
theorem dX1_weigh_0 : decode cX1_weigh 0 = .ok (.aload_n 0, 1) := by decide +kernel
theorem dX1_weigh_1 : decode cX1_weigh 1 = .ok (.getfield 27, 3) := by decide +kernel
theorem dX1_weigh_4 : decode cX1_weigh 4 = .ok (.aload_n 1, 1) := by decide +kernel
theorem dX1_weigh_5 : decode cX1_weigh 5 = .ok (.invokevirtual 99, 3) := by decide +kernel
theorem dX1_weigh_8 : decode cX1_weigh 8 = .ok (.iconst 0, 1) := by decide +kernel
theorem dX1_weigh_9 : decode cX1_weigh 9 = .ok (.istore_n 3, 1) := by decide +kernel
theorem dX1_weigh_10 : decode cX1_weigh 10 = .ok (.iload_n 3, 1) := by decide +kernel
theorem dX1_weigh_11 : decode cX1_weigh 11 = .ok (.aload_n 0, 1) := by decide +kernel
theorem dX1_weigh_12 : decode cX1_weigh 12 = .ok (.getfield 35, 3) := by decide +kernel
theorem dX1_weigh_15 : decode cX1_weigh 15 = .ok (.if_icmp .ge 29, 3) := by decide +kernel
theorem dX1_weigh_18 : decode cX1_weigh 18 = .ok (.aload_n 0, 1) := by decide +kernel
theorem dX1_weigh_19 : decode cX1_weigh 19 = .ok (.getfield 27, 3) := by decide +kernel
theorem dX1_weigh_22 : decode cX1_weigh 22 = .ok (.getfield 44, 3) := by decide +kernel
theorem dX1_weigh_25 : decode cX1_weigh 25 = .ok (.aload_n 0, 1) := by decide +kernel
theorem dX1_weigh_26 : decode cX1_weigh 26 = .ok (.getfield 11, 3) := by decide +kernel
theorem dX1_weigh_29 : decode cX1_weigh 29 = .ok (.iload_n 3, 1) := by decide +kernel
theorem dX1_weigh_30 : decode cX1_weigh 30 = .ok (.iaload, 1) := by decide +kernel
theorem dX1_weigh_31 : decode cX1_weigh 31 = .ok (.aload_n 0, 1) := by decide +kernel
theorem dX1_weigh_32 : decode cX1_weigh 32 = .ok (.getfield 15, 3) := by decide +kernel
theorem dX1_weigh_35 : decode cX1_weigh 35 = .ok (.iload_n 3, 1) := by decide +kernel
theorem dX1_weigh_36 : decode cX1_weigh 36 = .ok (.iaload, 1) := by decide +kernel
theorem dX1_weigh_37 : decode cX1_weigh 37 = .ok (.iastore, 1) := by decide +kernel
theorem dX1_weigh_38 : decode cX1_weigh 38 = .ok (.iinc 3 1, 3) := by decide +kernel
theorem dX1_weigh_41 : decode cX1_weigh 41 = .ok (.goto (-31), 3) := by decide +kernel
theorem dX1_weigh_44 : decode cX1_weigh 44 = .ok (.aload_n 0, 1) := by decide +kernel
theorem dX1_weigh_45 : decode cX1_weigh 45 = .ok (.getfield 31, 3) := by decide +kernel
theorem dX1_weigh_48 : decode cX1_weigh 48 = .ok (.aload_n 0, 1) := by decide +kernel
theorem dX1_weigh_49 : decode cX1_weigh 49 = .ok (.getfield 27, 3) := by decide +kernel
theorem dX1_weigh_52 : decode cX1_weigh 52 = .ok (.iload_n 2, 1) := by decide +kernel
theorem dX1_weigh_53 : decode cX1_weigh 53 = .ok (.invokevirtual 103, 3) := by decide +kernel
theorem dX1_weigh_56 : decode cX1_weigh 56 = .ok (.aload_n 0, 1) := by decide +kernel
theorem dX1_weigh_57 : decode cX1_weigh 57 = .ok (.getfield 27, 3) := by decide +kernel
theorem dX1_weigh_60 : decode cX1_weigh 60 = .ok (.invokevirtual 57, 3) := by decide +kernel
theorem dX1_weigh_63 : decode cX1_weigh 63 = .ok (.istore_n 3, 1) := by decide +kernel
theorem dX1_weigh_64 : decode cX1_weigh 64 = .ok (.iload_n 3, 1) := by decide +kernel
theorem dX1_weigh_65 : decode cX1_weigh 65 = .ok (.aload_n 0, 1) := by decide +kernel
theorem dX1_weigh_66 : decode cX1_weigh 66 = .ok (.getfield 50, 3) := by decide +kernel
theorem dX1_weigh_69 : decode cX1_weigh 69 = .ok (.if_icmp .le 25, 3) := by decide +kernel
theorem dX1_weigh_72 : decode cX1_weigh 72 = .ok (.aload_n 0, 1) := by decide +kernel
theorem dX1_weigh_73 : decode cX1_weigh 73 = .ok (.iload_n 3, 1) := by decide +kernel
theorem dX1_weigh_74 : decode cX1_weigh 74 = .ok (.putfield 50, 3) := by decide +kernel
theorem dX1_weigh_77 : decode cX1_weigh 77 = .ok (.aload_n 0, 1) := by decide +kernel
theorem dX1_weigh_78 : decode cX1_weigh 78 = .ok (.getfield 15, 3) := by decide +kernel
theorem dX1_weigh_81 : decode cX1_weigh 81 = .ok (.iconst 0, 1) := by decide +kernel
theorem dX1_weigh_82 : decode cX1_weigh 82 = .ok (.aload_n 0, 1) := by decide +kernel
theorem dX1_weigh_83 : decode cX1_weigh 83 = .ok (.getfield 18, 3) := by decide +kernel
theorem dX1_weigh_86 : decode cX1_weigh 86 = .ok (.iconst 0, 1) := by decide +kernel
theorem dX1_weigh_87 : decode cX1_weigh 87 = .ok (.aload_n 0, 1) := by decide +kernel
theorem dX1_weigh_88 : decode cX1_weigh 88 = .ok (.getfield 35, 3) := by decide +kernel
theorem dX1_weigh_91 : decode cX1_weigh 91 = .ok (.invokestatic 108, 3) := by decide +kernel
theorem dX1_weigh_94 : decode cX1_weigh 94 = .ok (.return_, 1) := by decide +kernel
theorem dX1_carryOut_0 : decode cX1_carryOut 0 = .ok (.iconst 0, 1) := by decide +kernel
theorem dX1_carryOut_1 : decode cX1_carryOut 1 = .ok (.istore_n 2, 1) := by decide +kernel
theorem dX1_carryOut_2 : decode cX1_carryOut 2 = .ok (.iconst 0, 1) := by decide +kernel
theorem dX1_carryOut_3 : decode cX1_carryOut 3 = .ok (.istore_n 3, 1) := by decide +kernel
theorem dX1_carryOut_4 : decode cX1_carryOut 4 = .ok (.iload_n 3, 1) := by decide +kernel
theorem dX1_carryOut_5 : decode cX1_carryOut 5 = .ok (.aload_n 0, 1) := by decide +kernel
theorem dX1_carryOut_6 : decode cX1_carryOut 6 = .ok (.getfield 35, 3) := by decide +kernel
theorem dX1_carryOut_9 : decode cX1_carryOut 9 = .ok (.if_icmp .ge 38, 3) := by decide +kernel
theorem dX1_carryOut_12 : decode cX1_carryOut 12 = .ok (.aload_n 1, 1) := by decide +kernel
theorem dX1_carryOut_13 : decode cX1_carryOut 13 = .ok (.getfield 44, 3) := by decide +kernel
theorem dX1_carryOut_16 : decode cX1_carryOut 16 = .ok (.aload_n 0, 1) := by decide +kernel
theorem dX1_carryOut_17 : decode cX1_carryOut 17 = .ok (.getfield 11, 3) := by decide +kernel
theorem dX1_carryOut_20 : decode cX1_carryOut 20 = .ok (.iload_n 3, 1) := by decide +kernel
theorem dX1_carryOut_21 : decode cX1_carryOut 21 = .ok (.iaload, 1) := by decide +kernel
theorem dX1_carryOut_22 : decode cX1_carryOut 22 = .ok (.aload_n 0, 1) := by decide +kernel
theorem dX1_carryOut_23 : decode cX1_carryOut 23 = .ok (.getfield 18, 3) := by decide +kernel
theorem dX1_carryOut_26 : decode cX1_carryOut 26 = .ok (.iload_n 3, 1) := by decide +kernel
theorem dX1_carryOut_27 : decode cX1_carryOut 27 = .ok (.iaload, 1) := by decide +kernel
theorem dX1_carryOut_28 : decode cX1_carryOut 28 = .ok (.iastore, 1) := by decide +kernel
theorem dX1_carryOut_29 : decode cX1_carryOut 29 = .ok (.aload_n 0, 1) := by decide +kernel
theorem dX1_carryOut_30 : decode cX1_carryOut 30 = .ok (.getfield 18, 3) := by decide +kernel
theorem dX1_carryOut_33 : decode cX1_carryOut 33 = .ok (.iload_n 3, 1) := by decide +kernel
theorem dX1_carryOut_34 : decode cX1_carryOut 34 = .ok (.iaload, 1) := by decide +kernel
theorem dX1_carryOut_35 : decode cX1_carryOut 35 = .ok (.ifCond .lt 6, 3) := by decide +kernel
theorem dX1_carryOut_38 : decode cX1_carryOut 38 = .ok (.iinc 2 1, 3) := by decide +kernel
theorem dX1_carryOut_41 : decode cX1_carryOut 41 = .ok (.iinc 3 1, 3) := by decide +kernel
theorem dX1_carryOut_44 : decode cX1_carryOut 44 = .ok (.goto (-40), 3) := by decide +kernel
theorem dX1_carryOut_47 : decode cX1_carryOut 47 = .ok (.iload_n 2, 1) := by decide +kernel
theorem dX1_carryOut_48 : decode cX1_carryOut 48 = .ok (.ireturn, 1) := by decide +kernel
theorem dX2_isKind_0 : decode cX2_isKind 0 = .ok (.iload_n 0, 1) := by decide +kernel
theorem dX2_isKind_1 : decode cX2_isKind 1 = .ok (.ifCond .lt 15, 3) := by decide +kernel
theorem dX2_isKind_4 : decode cX2_isKind 4 = .ok (.iload_n 0, 1) := by decide +kernel
theorem dX2_isKind_5 : decode cX2_isKind 5 = .ok (.getstatic 7, 3) := by decide +kernel
theorem dX2_isKind_8 : decode cX2_isKind 8 = .ok (.arraylength, 1) := by decide +kernel
theorem dX2_isKind_9 : decode cX2_isKind 9 = .ok (.if_icmp .ge 7, 3) := by decide +kernel
theorem dX2_isKind_12 : decode cX2_isKind 12 = .ok (.iconst 1, 1) := by decide +kernel
theorem dX2_isKind_13 : decode cX2_isKind 13 = .ok (.goto 4, 3) := by decide +kernel
theorem dX2_isKind_16 : decode cX2_isKind 16 = .ok (.iconst 0, 1) := by decide +kernel
theorem dX2_isKind_17 : decode cX2_isKind 17 = .ok (.ireturn, 1) := by decide +kernel
theorem dX2_isUnder_0 : decode cX2_isUnder 0 = .ok (.iload_n 0, 1) := by decide +kernel
theorem dX2_isUnder_1 : decode cX2_isUnder 1 = .ok (.istore_n 2, 1) := by decide +kernel
theorem dX2_isUnder_2 : decode cX2_isUnder 2 = .ok (.iconst 0, 1) := by decide +kernel
theorem dX2_isUnder_3 : decode cX2_isUnder 3 = .ok (.istore_n 3, 1) := by decide +kernel
theorem dX2_isUnder_4 : decode cX2_isUnder 4 = .ok (.iload_n 3, 1) := by decide +kernel
theorem dX2_isUnder_5 : decode cX2_isUnder 5 = .ok (.getstatic 7, 3) := by decide +kernel
theorem dX2_isUnder_8 : decode cX2_isUnder 8 = .ok (.arraylength, 1) := by decide +kernel
theorem dX2_isUnder_9 : decode cX2_isUnder 9 = .ok (.if_icmp .ge 34, 3) := by decide +kernel
theorem dX2_isUnder_12 : decode cX2_isUnder 12 = .ok (.iload_n 2, 1) := by decide +kernel
theorem dX2_isUnder_13 : decode cX2_isUnder 13 = .ok (.ifCond .lt 30, 3) := by decide +kernel
theorem dX2_isUnder_16 : decode cX2_isUnder 16 = .ok (.iload_n 2, 1) := by decide +kernel
theorem dX2_isUnder_17 : decode cX2_isUnder 17 = .ok (.getstatic 7, 3) := by decide +kernel
theorem dX2_isUnder_20 : decode cX2_isUnder 20 = .ok (.arraylength, 1) := by decide +kernel
theorem dX2_isUnder_21 : decode cX2_isUnder 21 = .ok (.if_icmp .ge 22, 3) := by decide +kernel
theorem dX2_isUnder_24 : decode cX2_isUnder 24 = .ok (.iload_n 2, 1) := by decide +kernel
theorem dX2_isUnder_25 : decode cX2_isUnder 25 = .ok (.iload_n 1, 1) := by decide +kernel
theorem dX2_isUnder_26 : decode cX2_isUnder 26 = .ok (.if_icmp .ne 5, 3) := by decide +kernel
theorem dX2_isUnder_29 : decode cX2_isUnder 29 = .ok (.iconst 1, 1) := by decide +kernel
theorem dX2_isUnder_30 : decode cX2_isUnder 30 = .ok (.ireturn, 1) := by decide +kernel
theorem dX2_isUnder_31 : decode cX2_isUnder 31 = .ok (.getstatic 7, 3) := by decide +kernel
theorem dX2_isUnder_34 : decode cX2_isUnder 34 = .ok (.iload_n 2, 1) := by decide +kernel
theorem dX2_isUnder_35 : decode cX2_isUnder 35 = .ok (.iaload, 1) := by decide +kernel
theorem dX2_isUnder_36 : decode cX2_isUnder 36 = .ok (.istore_n 2, 1) := by decide +kernel
theorem dX2_isUnder_37 : decode cX2_isUnder 37 = .ok (.iinc 3 1, 3) := by decide +kernel
theorem dX2_isUnder_40 : decode cX2_isUnder 40 = .ok (.goto (-36), 3) := by decide +kernel
theorem dX2_isUnder_43 : decode cX2_isUnder 43 = .ok (.iconst 0, 1) := by decide +kernel
theorem dX2_isUnder_44 : decode cX2_isUnder 44 = .ok (.ireturn, 1) := by decide +kernel
theorem dX2_workOf_0 : decode cX2_workOf 0 = .ok (.iload_n 2, 1) := by decide +kernel
theorem dX2_workOf_1 : decode cX2_workOf 1 = .ok (.iconst 2, 1) := by decide +kernel
theorem dX2_workOf_2 : decode cX2_workOf 2 = .ok (.irem, 1) := by decide +kernel
theorem dX2_workOf_3 : decode cX2_workOf 3 = .ok (.ifCond .ne 7, 3) := by decide +kernel
theorem dX2_workOf_6 : decode cX2_workOf 6 = .ok (.iload_n 1, 1) := by decide +kernel
theorem dX2_workOf_7 : decode cX2_workOf 7 = .ok (.goto 6, 3) := by decide +kernel
theorem dX2_workOf_10 : decode cX2_workOf 10 = .ok (.iload_n 1, 1) := by decide +kernel
theorem dX2_workOf_11 : decode cX2_workOf 11 = .ok (.iconst 2, 1) := by decide +kernel
theorem dX2_workOf_12 : decode cX2_workOf 12 = .ok (.idiv, 1) := by decide +kernel
theorem dX2_workOf_13 : decode cX2_workOf 13 = .ok (.istore_n 3, 1) := by decide +kernel
theorem dX2_workOf_14 : decode cX2_workOf 14 = .ok (.iload_n 0, 1) := by decide +kernel
theorem dX2_workOf_15 : decode cX2_workOf 15 = .ok (.tableswitch 61 1 6 #[37, 61, 61, 51, 55, 39], 37) := by decide +kernel
theorem dX2_workOf_52 : decode cX2_workOf 52 = .ok (.iload_n 3, 1) := by decide +kernel
theorem dX2_workOf_53 : decode cX2_workOf 53 = .ok (.ireturn, 1) := by decide +kernel
theorem dX2_workOf_54 : decode cX2_workOf 54 = .ok (.iload_n 3, 1) := by decide +kernel
theorem dX2_workOf_55 : decode cX2_workOf 55 = .ok (.ifCond .le 9, 3) := by decide +kernel
theorem dX2_workOf_58 : decode cX2_workOf 58 = .ok (.iload_n 3, 1) := by decide +kernel
theorem dX2_workOf_59 : decode cX2_workOf 59 = .ok (.iconst 1, 1) := by decide +kernel
theorem dX2_workOf_60 : decode cX2_workOf 60 = .ok (.isub, 1) := by decide +kernel
theorem dX2_workOf_61 : decode cX2_workOf 61 = .ok (.goto 4, 3) := by decide +kernel
theorem dX2_workOf_64 : decode cX2_workOf 64 = .ok (.iconst 0, 1) := by decide +kernel
theorem dX2_workOf_65 : decode cX2_workOf 65 = .ok (.ireturn, 1) := by decide +kernel
theorem dX2_workOf_66 : decode cX2_workOf 66 = .ok (.iconst 2, 1) := by decide +kernel
theorem dX2_workOf_67 : decode cX2_workOf 67 = .ok (.iload_n 1, 1) := by decide +kernel
theorem dX2_workOf_68 : decode cX2_workOf 68 = .ok (.imul, 1) := by decide +kernel
theorem dX2_workOf_69 : decode cX2_workOf 69 = .ok (.ireturn, 1) := by decide +kernel
theorem dX2_workOf_70 : decode cX2_workOf 70 = .ok (.iconst 2, 1) := by decide +kernel
theorem dX2_workOf_71 : decode cX2_workOf 71 = .ok (.iload_n 1, 1) := by decide +kernel
theorem dX2_workOf_72 : decode cX2_workOf 72 = .ok (.imul, 1) := by decide +kernel
theorem dX2_workOf_73 : decode cX2_workOf 73 = .ok (.iconst 1, 1) := by decide +kernel
theorem dX2_workOf_74 : decode cX2_workOf 74 = .ok (.iadd, 1) := by decide +kernel
theorem dX2_workOf_75 : decode cX2_workOf 75 = .ok (.ireturn, 1) := by decide +kernel
theorem dX2_workOf_76 : decode cX2_workOf 76 = .ok (.iload_n 1, 1) := by decide +kernel
theorem dX2_workOf_77 : decode cX2_workOf 77 = .ok (.ireturn, 1) := by decide +kernel
theorem dX2_growthOf_0 : decode cX2_growthOf 0 = .ok (.iload_n 0, 1) := by decide +kernel
theorem dX2_growthOf_1 : decode cX2_growthOf 1 = .ok (.tableswitch 59 2 6 #[35, 40, 59, 59, 47], 35) := by decide +kernel
theorem dX2_growthOf_36 : decode cX2_growthOf 36 = .ok (.iload_n 1, 1) := by decide +kernel
theorem dX2_growthOf_37 : decode cX2_growthOf 37 = .ok (.bipush 10, 2) := by decide +kernel
theorem dX2_growthOf_39 : decode cX2_growthOf 39 = .ok (.idiv, 1) := by decide +kernel
theorem dX2_growthOf_40 : decode cX2_growthOf 40 = .ok (.ireturn, 1) := by decide +kernel
theorem dX2_growthOf_41 : decode cX2_growthOf 41 = .ok (.iload_n 1, 1) := by decide +kernel
theorem dX2_growthOf_42 : decode cX2_growthOf 42 = .ok (.bipush 10, 2) := by decide +kernel
theorem dX2_growthOf_44 : decode cX2_growthOf 44 = .ok (.idiv, 1) := by decide +kernel
theorem dX2_growthOf_45 : decode cX2_growthOf 45 = .ok (.iconst 1, 1) := by decide +kernel
theorem dX2_growthOf_46 : decode cX2_growthOf 46 = .ok (.iadd, 1) := by decide +kernel
theorem dX2_growthOf_47 : decode cX2_growthOf 47 = .ok (.ireturn, 1) := by decide +kernel
theorem dX2_growthOf_48 : decode cX2_growthOf 48 = .ok (.iload_n 2, 1) := by decide +kernel
theorem dX2_growthOf_49 : decode cX2_growthOf 49 = .ok (.iconst 2, 1) := by decide +kernel
theorem dX2_growthOf_50 : decode cX2_growthOf 50 = .ok (.irem, 1) := by decide +kernel
theorem dX2_growthOf_51 : decode cX2_growthOf 51 = .ok (.ifCond .ne 7, 3) := by decide +kernel
theorem dX2_growthOf_54 : decode cX2_growthOf 54 = .ok (.iconst 1, 1) := by decide +kernel
theorem dX2_growthOf_55 : decode cX2_growthOf 55 = .ok (.goto 4, 3) := by decide +kernel
theorem dX2_growthOf_58 : decode cX2_growthOf 58 = .ok (.iconst 0, 1) := by decide +kernel
theorem dX2_growthOf_59 : decode cX2_growthOf 59 = .ok (.ireturn, 1) := by decide +kernel
theorem dX2_growthOf_60 : decode cX2_growthOf 60 = .ok (.iconst 0, 1) := by decide +kernel
theorem dX2_growthOf_61 : decode cX2_growthOf 61 = .ok (.ireturn, 1) := by decide +kernel
theorem dX3_init_0 : decode cX3_init 0 = .ok (.aload_n 0, 1) := by decide +kernel
theorem dX3_init_1 : decode cX3_init 1 = .ok (.invokespecial 1, 3) := by decide +kernel
theorem dX3_init_4 : decode cX3_init 4 = .ok (.aload_n 0, 1) := by decide +kernel
theorem dX3_init_5 : decode cX3_init 5 = .ok (.bipush 40, 2) := by decide +kernel
theorem dX3_init_7 : decode cX3_init 7 = .ok (.newarray .int, 2) := by decide +kernel
theorem dX3_init_9 : decode cX3_init 9 = .ok (.putfield 9, 3) := by decide +kernel
theorem dX3_init_12 : decode cX3_init 12 = .ok (.return_, 1) := by decide +kernel
theorem dX3_isMissing_0 : decode cX3_isMissing 0 = .ok (.aload_n 0, 1) := by decide +kernel
theorem dX3_isMissing_1 : decode cX3_isMissing 1 = .ok (.getfield 13, 3) := by decide +kernel
theorem dX3_isMissing_4 : decode cX3_isMissing 4 = .ok (.ifCond .ne 7, 3) := by decide +kernel
theorem dX3_isMissing_7 : decode cX3_isMissing 7 = .ok (.iconst 1, 1) := by decide +kernel
theorem dX3_isMissing_8 : decode cX3_isMissing 8 = .ok (.goto 4, 3) := by decide +kernel
theorem dX3_isMissing_11 : decode cX3_isMissing 11 = .ok (.iconst 0, 1) := by decide +kernel
theorem dX3_isMissing_12 : decode cX3_isMissing 12 = .ok (.ireturn, 1) := by decide +kernel
theorem dX3_become_0 : decode cX3_become 0 = .ok (.aload_n 0, 1) := by decide +kernel
theorem dX3_become_1 : decode cX3_become 1 = .ok (.iload_n 1, 1) := by decide +kernel
theorem dX3_become_2 : decode cX3_become 2 = .ok (.putfield 13, 3) := by decide +kernel
theorem dX3_become_5 : decode cX3_become 5 = .ok (.aload_n 0, 1) := by decide +kernel
theorem dX3_become_6 : decode cX3_become 6 = .ok (.iload_n 1, 1) := by decide +kernel
theorem dX3_become_7 : decode cX3_become 7 = .ok (.ifCond .ne 7, 3) := by decide +kernel
theorem dX3_become_10 : decode cX3_become 10 = .ok (.iconst 0, 1) := by decide +kernel
theorem dX3_become_11 : decode cX3_become 11 = .ok (.goto 4, 3) := by decide +kernel
theorem dX3_become_14 : decode cX3_become 14 = .ok (.iload_n 2, 1) := by decide +kernel
theorem dX3_become_15 : decode cX3_become 15 = .ok (.putfield 17, 3) := by decide +kernel
theorem dX3_become_18 : decode cX3_become 18 = .ok (.aload_n 0, 1) := by decide +kernel
theorem dX3_become_19 : decode cX3_become 19 = .ok (.getfield 9, 3) := by decide +kernel
theorem dX3_become_22 : decode cX3_become 22 = .ok (.iconst 0, 1) := by decide +kernel
theorem dX3_become_23 : decode cX3_become 23 = .ok (.invokestatic 20, 3) := by decide +kernel
theorem dX3_become_26 : decode cX3_become 26 = .ok (.aload_n 0, 1) := by decide +kernel
theorem dX3_become_27 : decode cX3_become 27 = .ok (.getfield 17, 3) := by decide +kernel
theorem dX3_become_30 : decode cX3_become 30 = .ok (.ireturn, 1) := by decide +kernel
theorem dX3_hasRange_0 : decode cX3_hasRange 0 = .ok (.iload_n 1, 1) := by decide +kernel
theorem dX3_hasRange_1 : decode cX3_hasRange 1 = .ok (.ifCond .lt 29, 3) := by decide +kernel
theorem dX3_hasRange_4 : decode cX3_hasRange 4 = .ok (.iload_n 2, 1) := by decide +kernel
theorem dX3_hasRange_5 : decode cX3_hasRange 5 = .ok (.ifCond .lt 25, 3) := by decide +kernel
theorem dX3_hasRange_8 : decode cX3_hasRange 8 = .ok (.iload_n 2, 1) := by decide +kernel
theorem dX3_hasRange_9 : decode cX3_hasRange 9 = .ok (.aload_n 0, 1) := by decide +kernel
theorem dX3_hasRange_10 : decode cX3_hasRange 10 = .ok (.getfield 17, 3) := by decide +kernel
theorem dX3_hasRange_13 : decode cX3_hasRange 13 = .ok (.if_icmp .gt 17, 3) := by decide +kernel
theorem dX3_hasRange_16 : decode cX3_hasRange 16 = .ok (.iload_n 1, 1) := by decide +kernel
theorem dX3_hasRange_17 : decode cX3_hasRange 17 = .ok (.aload_n 0, 1) := by decide +kernel
theorem dX3_hasRange_18 : decode cX3_hasRange 18 = .ok (.getfield 17, 3) := by decide +kernel
theorem dX3_hasRange_21 : decode cX3_hasRange 21 = .ok (.iload_n 2, 1) := by decide +kernel
theorem dX3_hasRange_22 : decode cX3_hasRange 22 = .ok (.isub, 1) := by decide +kernel
theorem dX3_hasRange_23 : decode cX3_hasRange 23 = .ok (.if_icmp .gt 7, 3) := by decide +kernel
theorem dX3_hasRange_26 : decode cX3_hasRange 26 = .ok (.iconst 1, 1) := by decide +kernel
theorem dX3_hasRange_27 : decode cX3_hasRange 27 = .ok (.goto 4, 3) := by decide +kernel
theorem dX3_hasRange_30 : decode cX3_hasRange 30 = .ok (.iconst 0, 1) := by decide +kernel
theorem dX3_hasRange_31 : decode cX3_hasRange 31 = .ok (.ireturn, 1) := by decide +kernel
theorem dX3_put_0 : decode cX3_put 0 = .ok (.aload_n 0, 1) := by decide +kernel
theorem dX3_put_1 : decode cX3_put 1 = .ok (.getfield 13, 3) := by decide +kernel
theorem dX3_put_4 : decode cX3_put 4 = .ok (.bipush 8, 2) := by decide +kernel
theorem dX3_put_6 : decode cX3_put 6 = .ok (.if_icmp .ne 14, 3) := by decide +kernel
theorem dX3_put_9 : decode cX3_put 9 = .ok (.aload_n 0, 1) := by decide +kernel
theorem dX3_put_10 : decode cX3_put 10 = .ok (.getfield 9, 3) := by decide +kernel
theorem dX3_put_13 : decode cX3_put 13 = .ok (.iload_n 1, 1) := by decide +kernel
theorem dX3_put_14 : decode cX3_put 14 = .ok (.iload_n 2, 1) := by decide +kernel
theorem dX3_put_15 : decode cX3_put 15 = .ok (.i2b, 1) := by decide +kernel
theorem dX3_put_16 : decode cX3_put 16 = .ok (.iastore, 1) := by decide +kernel
theorem dX3_put_17 : decode cX3_put 17 = .ok (.goto 30, 3) := by decide +kernel
theorem dX3_put_20 : decode cX3_put 20 = .ok (.aload_n 0, 1) := by decide +kernel
theorem dX3_put_21 : decode cX3_put 21 = .ok (.getfield 13, 3) := by decide +kernel
theorem dX3_put_24 : decode cX3_put 24 = .ok (.bipush 16, 2) := by decide +kernel
theorem dX3_put_26 : decode cX3_put 26 = .ok (.if_icmp .ne 14, 3) := by decide +kernel
theorem dX3_put_29 : decode cX3_put 29 = .ok (.aload_n 0, 1) := by decide +kernel
theorem dX3_put_30 : decode cX3_put 30 = .ok (.getfield 9, 3) := by decide +kernel
theorem dX3_put_33 : decode cX3_put 33 = .ok (.iload_n 1, 1) := by decide +kernel
theorem dX3_put_34 : decode cX3_put 34 = .ok (.iload_n 2, 1) := by decide +kernel
theorem dX3_put_35 : decode cX3_put 35 = .ok (.i2s, 1) := by decide +kernel
theorem dX3_put_36 : decode cX3_put 36 = .ok (.iastore, 1) := by decide +kernel
theorem dX3_put_37 : decode cX3_put 37 = .ok (.goto 10, 3) := by decide +kernel
theorem dX3_put_40 : decode cX3_put 40 = .ok (.aload_n 0, 1) := by decide +kernel
theorem dX3_put_41 : decode cX3_put 41 = .ok (.getfield 9, 3) := by decide +kernel
theorem dX3_put_44 : decode cX3_put 44 = .ok (.iload_n 1, 1) := by decide +kernel
theorem dX3_put_45 : decode cX3_put 45 = .ok (.iload_n 2, 1) := by decide +kernel
theorem dX3_put_46 : decode cX3_put 46 = .ok (.iastore, 1) := by decide +kernel
theorem dX3_put_47 : decode cX3_put 47 = .ok (.return_, 1) := by decide +kernel
theorem dX4_init_0 : decode cX4_init 0 = .ok (.aload_n 0, 1) := by decide +kernel
theorem dX4_init_1 : decode cX4_init 1 = .ok (.invokespecial 3, 3) := by decide +kernel
theorem dX4_init_4 : decode cX4_init 4 = .ok (.aload_n 0, 1) := by decide +kernel
theorem dX4_init_5 : decode cX4_init 5 = .ok (.bipush 120, 2) := by decide +kernel
theorem dX4_init_7 : decode cX4_init 7 = .ok (.newarray .int, 2) := by decide +kernel
theorem dX4_init_9 : decode cX4_init 9 = .ok (.putfield 11, 3) := by decide +kernel
theorem dX4_init_12 : decode cX4_init 12 = .ok (.return_, 1) := by decide +kernel
theorem dX4_hasRoomFor_0 : decode cX4_hasRoomFor 0 = .ok (.aload_n 0, 1) := by decide +kernel
theorem dX4_hasRoomFor_1 : decode cX4_hasRoomFor 1 = .ok (.getfield 15, 3) := by decide +kernel
theorem dX4_hasRoomFor_4 : decode cX4_hasRoomFor 4 = .ok (.iload_n 1, 1) := by decide +kernel
theorem dX4_hasRoomFor_5 : decode cX4_hasRoomFor 5 = .ok (.iadd, 1) := by decide +kernel
theorem dX4_hasRoomFor_6 : decode cX4_hasRoomFor 6 = .ok (.bipush 120, 2) := by decide +kernel
theorem dX4_hasRoomFor_8 : decode cX4_hasRoomFor 8 = .ok (.if_icmp .gt 7, 3) := by decide +kernel
theorem dX4_hasRoomFor_11 : decode cX4_hasRoomFor 11 = .ok (.iconst 1, 1) := by decide +kernel
theorem dX4_hasRoomFor_12 : decode cX4_hasRoomFor 12 = .ok (.goto 4, 3) := by decide +kernel
theorem dX4_hasRoomFor_15 : decode cX4_hasRoomFor 15 = .ok (.iconst 0, 1) := by decide +kernel
theorem dX4_hasRoomFor_16 : decode cX4_hasRoomFor 16 = .ok (.ireturn, 1) := by decide +kernel
theorem dX4_append_0 : decode cX4_append 0 = .ok (.iload_n 2, 1) := by decide +kernel
theorem dX4_append_1 : decode cX4_append 1 = .ok (.iconst 1, 1) := by decide +kernel
theorem dX4_append_2 : decode cX4_append 2 = .ok (.isub, 1) := by decide +kernel
theorem dX4_append_3 : decode cX4_append 3 = .ok (.istore_n 3, 1) := by decide +kernel
theorem dX4_append_4 : decode cX4_append 4 = .ok (.iload_n 3, 1) := by decide +kernel
theorem dX4_append_5 : decode cX4_append 5 = .ok (.ifCond .lt 44, 3) := by decide +kernel
theorem dX4_append_8 : decode cX4_append 8 = .ok (.aload_n 0, 1) := by decide +kernel
theorem dX4_append_9 : decode cX4_append 9 = .ok (.getfield 15, 3) := by decide +kernel
theorem dX4_append_12 : decode cX4_append 12 = .ok (.bipush 120, 2) := by decide +kernel
theorem dX4_append_14 : decode cX4_append 14 = .ok (.if_icmp .ge 35, 3) := by decide +kernel
theorem dX4_append_17 : decode cX4_append 17 = .ok (.aload_n 0, 1) := by decide +kernel
theorem dX4_append_18 : decode cX4_append 18 = .ok (.getfield 11, 3) := by decide +kernel
theorem dX4_append_21 : decode cX4_append 21 = .ok (.aload_n 0, 1) := by decide +kernel
theorem dX4_append_22 : decode cX4_append 22 = .ok (.dup, 1) := by decide +kernel
theorem dX4_append_23 : decode cX4_append 23 = .ok (.getfield 15, 3) := by decide +kernel
theorem dX4_append_26 : decode cX4_append 26 = .ok (.dup_x1, 1) := by decide +kernel
theorem dX4_append_27 : decode cX4_append 27 = .ok (.iconst 1, 1) := by decide +kernel
theorem dX4_append_28 : decode cX4_append 28 = .ok (.iadd, 1) := by decide +kernel
theorem dX4_append_29 : decode cX4_append 29 = .ok (.putfield 15, 3) := by decide +kernel
theorem dX4_append_32 : decode cX4_append 32 = .ok (.iload_n 1, 1) := by decide +kernel
theorem dX4_append_33 : decode cX4_append 33 = .ok (.bipush 8, 2) := by decide +kernel
theorem dX4_append_35 : decode cX4_append 35 = .ok (.iload_n 3, 1) := by decide +kernel
theorem dX4_append_36 : decode cX4_append 36 = .ok (.imul, 1) := by decide +kernel
theorem dX4_append_37 : decode cX4_append 37 = .ok (.iushr, 1) := by decide +kernel
theorem dX4_append_38 : decode cX4_append 38 = .ok (.sipush 255, 3) := by decide +kernel
theorem dX4_append_41 : decode cX4_append 41 = .ok (.iand, 1) := by decide +kernel
theorem dX4_append_42 : decode cX4_append 42 = .ok (.iastore, 1) := by decide +kernel
theorem dX4_append_43 : decode cX4_append 43 = .ok (.iinc 3 (-1), 3) := by decide +kernel
theorem dX4_append_46 : decode cX4_append 46 = .ok (.goto (-42), 3) := by decide +kernel
theorem dX4_append_49 : decode cX4_append 49 = .ok (.aload_n 0, 1) := by decide +kernel
theorem dX4_append_50 : decode cX4_append 50 = .ok (.getfield 15, 3) := by decide +kernel
theorem dX4_append_53 : decode cX4_append 53 = .ok (.ireturn, 1) := by decide +kernel
theorem dX4_clear_0 : decode cX4_clear 0 = .ok (.aload_n 0, 1) := by decide +kernel
theorem dX4_clear_1 : decode cX4_clear 1 = .ok (.getfield 15, 3) := by decide +kernel
theorem dX4_clear_4 : decode cX4_clear 4 = .ok (.istore_n 1, 1) := by decide +kernel
theorem dX4_clear_5 : decode cX4_clear 5 = .ok (.aload_n 0, 1) := by decide +kernel
theorem dX4_clear_6 : decode cX4_clear 6 = .ok (.iconst 0, 1) := by decide +kernel
theorem dX4_clear_7 : decode cX4_clear 7 = .ok (.putfield 15, 3) := by decide +kernel
theorem dX4_clear_10 : decode cX4_clear 10 = .ok (.iload_n 1, 1) := by decide +kernel
theorem dX4_clear_11 : decode cX4_clear 11 = .ok (.ireturn, 1) := by decide +kernel
theorem dX4_readInto_0 : decode cX4_readInto 0 = .ok (.aload_n 0, 1) := by decide +kernel
theorem dX4_readInto_1 : decode cX4_readInto 1 = .ok (.iconst 0, 1) := by decide +kernel
theorem dX4_readInto_2 : decode cX4_readInto 2 = .ok (.putfield 19, 3) := by decide +kernel
theorem dX4_readInto_5 : decode cX4_readInto 5 = .ok (.iconst 1, 1) := by decide +kernel
theorem dX4_readInto_6 : decode cX4_readInto 6 = .ok (.istore_n 2, 1) := by decide +kernel
theorem dX4_readInto_7 : decode cX4_readInto 7 = .ok (.iload_n 2, 1) := by decide +kernel
theorem dX4_readInto_8 : decode cX4_readInto 8 = .ok (.bipush 120, 2) := by decide +kernel
theorem dX4_readInto_10 : decode cX4_readInto 10 = .ok (.if_icmp .gt 44, 3) := by decide +kernel
theorem dX4_readInto_13 : decode cX4_readInto 13 = .ok (.aload_n 0, 1) := by decide +kernel
theorem dX4_readInto_14 : decode cX4_readInto 14 = .ok (.invokevirtual 22, 3) := by decide +kernel
theorem dX4_readInto_17 : decode cX4_readInto 17 = .ok (.aload_n 0, 1) := by decide +kernel
theorem dX4_readInto_18 : decode cX4_readInto 18 = .ok (.aload_n 1, 1) := by decide +kernel
theorem dX4_readInto_19 : decode cX4_readInto 19 = .ok (.invokevirtual 25, 3) := by decide +kernel
theorem dX4_readInto_22 : decode cX4_readInto 22 = .ok (.ifCond .ne 6, 3) := by decide +kernel
theorem dX4_readInto_25 : decode cX4_readInto 25 = .ok (.goto 29, 3) := by decide +kernel
theorem dX4_readInto_28 : decode cX4_readInto 28 = .ok (.aload_n 0, 1) := by decide +kernel
theorem dX4_readInto_29 : decode cX4_readInto 29 = .ok (.getfield 29, 3) := by decide +kernel
theorem dX4_readInto_32 : decode cX4_readInto 32 = .ok (.ifCond .ne 5, 3) := by decide +kernel
theorem dX4_readInto_35 : decode cX4_readInto 35 = .ok (.iload_n 2, 1) := by decide +kernel
theorem dX4_readInto_36 : decode cX4_readInto 36 = .ok (.ireturn, 1) := by decide +kernel
theorem dX4_readInto_37 : decode cX4_readInto 37 = .ok (.aload_n 0, 1) := by decide +kernel
theorem dX4_readInto_38 : decode cX4_readInto 38 = .ok (.getfield 29, 3) := by decide +kernel
theorem dX4_readInto_41 : decode cX4_readInto 41 = .ok (.iconst 3, 1) := by decide +kernel
theorem dX4_readInto_42 : decode cX4_readInto 42 = .ok (.if_icmp .eq 6, 3) := by decide +kernel
theorem dX4_readInto_45 : decode cX4_readInto 45 = .ok (.goto 9, 3) := by decide +kernel
theorem dX4_readInto_48 : decode cX4_readInto 48 = .ok (.iinc 2 1, 3) := by decide +kernel
theorem dX4_readInto_51 : decode cX4_readInto 51 = .ok (.goto (-44), 3) := by decide +kernel
theorem dX4_readInto_54 : decode cX4_readInto 54 = .ok (.iconst (-1), 1) := by decide +kernel
theorem dX4_readInto_55 : decode cX4_readInto 55 = .ok (.aload_n 0, 1) := by decide +kernel
theorem dX4_readInto_56 : decode cX4_readInto 56 = .ok (.getfield 32, 3) := by decide +kernel
theorem dX4_readInto_59 : decode cX4_readInto 59 = .ok (.isub, 1) := by decide +kernel
theorem dX4_readInto_60 : decode cX4_readInto 60 = .ok (.ireturn, 1) := by decide +kernel
theorem dX4_advance_0 : decode cX4_advance 0 = .ok (.aload_n 0, 1) := by decide +kernel
theorem dX4_advance_1 : decode cX4_advance 1 = .ok (.aload_n 0, 1) := by decide +kernel
theorem dX4_advance_2 : decode cX4_advance 2 = .ok (.getfield 19, 3) := by decide +kernel
theorem dX4_advance_5 : decode cX4_advance 5 = .ok (.putfield 32, 3) := by decide +kernel
theorem dX4_advance_8 : decode cX4_advance 8 = .ok (.aload_n 0, 1) := by decide +kernel
theorem dX4_advance_9 : decode cX4_advance 9 = .ok (.getfield 32, 3) := by decide +kernel
theorem dX4_advance_12 : decode cX4_advance 12 = .ok (.aload_n 0, 1) := by decide +kernel
theorem dX4_advance_13 : decode cX4_advance 13 = .ok (.getfield 15, 3) := by decide +kernel
theorem dX4_advance_16 : decode cX4_advance 16 = .ok (.if_icmp .ge 30, 3) := by decide +kernel
theorem dX4_advance_19 : decode cX4_advance 19 = .ok (.aload_n 0, 1) := by decide +kernel
theorem dX4_advance_20 : decode cX4_advance 20 = .ok (.getfield 11, 3) := by decide +kernel
theorem dX4_advance_23 : decode cX4_advance 23 = .ok (.aload_n 0, 1) := by decide +kernel
theorem dX4_advance_24 : decode cX4_advance 24 = .ok (.getfield 32, 3) := by decide +kernel
theorem dX4_advance_27 : decode cX4_advance 27 = .ok (.iaload, 1) := by decide +kernel
theorem dX4_advance_28 : decode cX4_advance 28 = .ok (.bipush 32, 2) := by decide +kernel
theorem dX4_advance_30 : decode cX4_advance 30 = .ok (.if_icmp .ne 16, 3) := by decide +kernel
theorem dX4_advance_33 : decode cX4_advance 33 = .ok (.aload_n 0, 1) := by decide +kernel
theorem dX4_advance_34 : decode cX4_advance 34 = .ok (.dup, 1) := by decide +kernel
theorem dX4_advance_35 : decode cX4_advance 35 = .ok (.getfield 32, 3) := by decide +kernel
theorem dX4_advance_38 : decode cX4_advance 38 = .ok (.iconst 1, 1) := by decide +kernel
theorem dX4_advance_39 : decode cX4_advance 39 = .ok (.iadd, 1) := by decide +kernel
theorem dX4_advance_40 : decode cX4_advance 40 = .ok (.putfield 32, 3) := by decide +kernel
theorem dX4_advance_43 : decode cX4_advance 43 = .ok (.goto (-35), 3) := by decide +kernel
theorem dX4_advance_46 : decode cX4_advance 46 = .ok (.aload_n 0, 1) := by decide +kernel
theorem dX4_advance_47 : decode cX4_advance 47 = .ok (.aload_n 0, 1) := by decide +kernel
theorem dX4_advance_48 : decode cX4_advance 48 = .ok (.getfield 32, 3) := by decide +kernel
theorem dX4_advance_51 : decode cX4_advance 51 = .ok (.putfield 19, 3) := by decide +kernel
theorem dX4_advance_54 : decode cX4_advance 54 = .ok (.aload_n 0, 1) := by decide +kernel
theorem dX4_advance_55 : decode cX4_advance 55 = .ok (.getfield 32, 3) := by decide +kernel
theorem dX4_advance_58 : decode cX4_advance 58 = .ok (.aload_n 0, 1) := by decide +kernel
theorem dX4_advance_59 : decode cX4_advance 59 = .ok (.getfield 15, 3) := by decide +kernel
theorem dX4_advance_62 : decode cX4_advance 62 = .ok (.if_icmp .lt 11, 3) := by decide +kernel
theorem dX4_advance_65 : decode cX4_advance 65 = .ok (.aload_n 0, 1) := by decide +kernel
theorem dX4_advance_66 : decode cX4_advance 66 = .ok (.iconst 0, 1) := by decide +kernel
theorem dX4_advance_67 : decode cX4_advance 67 = .ok (.putfield 29, 3) := by decide +kernel
theorem dX4_advance_70 : decode cX4_advance 70 = .ok (.goto 110, 3) := by decide +kernel
theorem dX4_advance_73 : decode cX4_advance 73 = .ok (.aload_n 0, 1) := by decide +kernel
theorem dX4_advance_74 : decode cX4_advance 74 = .ok (.aload_n 0, 1) := by decide +kernel
theorem dX4_advance_75 : decode cX4_advance 75 = .ok (.getfield 32, 3) := by decide +kernel
theorem dX4_advance_78 : decode cX4_advance 78 = .ok (.invokevirtual 35, 3) := by decide +kernel
theorem dX4_advance_81 : decode cX4_advance 81 = .ok (.ifCond .eq 43, 3) := by decide +kernel
theorem dX4_advance_84 : decode cX4_advance 84 = .ok (.aload_n 0, 1) := by decide +kernel
theorem dX4_advance_85 : decode cX4_advance 85 = .ok (.iconst 1, 1) := by decide +kernel
theorem dX4_advance_86 : decode cX4_advance 86 = .ok (.putfield 29, 3) := by decide +kernel
theorem dX4_advance_89 : decode cX4_advance 89 = .ok (.aload_n 0, 1) := by decide +kernel
theorem dX4_advance_90 : decode cX4_advance 90 = .ok (.getfield 19, 3) := by decide +kernel
theorem dX4_advance_93 : decode cX4_advance 93 = .ok (.aload_n 0, 1) := by decide +kernel
theorem dX4_advance_94 : decode cX4_advance 94 = .ok (.getfield 15, 3) := by decide +kernel
theorem dX4_advance_97 : decode cX4_advance 97 = .ok (.if_icmp .ge 83, 3) := by decide +kernel
theorem dX4_advance_100 : decode cX4_advance 100 = .ok (.aload_n 0, 1) := by decide +kernel
theorem dX4_advance_101 : decode cX4_advance 101 = .ok (.aload_n 0, 1) := by decide +kernel
theorem dX4_advance_102 : decode cX4_advance 102 = .ok (.getfield 19, 3) := by decide +kernel
theorem dX4_advance_105 : decode cX4_advance 105 = .ok (.invokevirtual 35, 3) := by decide +kernel
theorem dX4_advance_108 : decode cX4_advance 108 = .ok (.ifCond .eq 72, 3) := by decide +kernel
theorem dX4_advance_111 : decode cX4_advance 111 = .ok (.aload_n 0, 1) := by decide +kernel
theorem dX4_advance_112 : decode cX4_advance 112 = .ok (.dup, 1) := by decide +kernel
theorem dX4_advance_113 : decode cX4_advance 113 = .ok (.getfield 19, 3) := by decide +kernel
theorem dX4_advance_116 : decode cX4_advance 116 = .ok (.iconst 1, 1) := by decide +kernel
theorem dX4_advance_117 : decode cX4_advance 117 = .ok (.iadd, 1) := by decide +kernel
theorem dX4_advance_118 : decode cX4_advance 118 = .ok (.putfield 19, 3) := by decide +kernel
theorem dX4_advance_121 : decode cX4_advance 121 = .ok (.goto (-32), 3) := by decide +kernel
theorem dX4_advance_124 : decode cX4_advance 124 = .ok (.aload_n 0, 1) := by decide +kernel
theorem dX4_advance_125 : decode cX4_advance 125 = .ok (.aload_n 0, 1) := by decide +kernel
theorem dX4_advance_126 : decode cX4_advance 126 = .ok (.getfield 32, 3) := by decide +kernel
theorem dX4_advance_129 : decode cX4_advance 129 = .ok (.invokevirtual 39, 3) := by decide +kernel
theorem dX4_advance_132 : decode cX4_advance 132 = .ok (.ifCond .eq 15, 3) := by decide +kernel
theorem dX4_advance_135 : decode cX4_advance 135 = .ok (.aload_n 0, 1) := by decide +kernel
theorem dX4_advance_136 : decode cX4_advance 136 = .ok (.iconst 2, 1) := by decide +kernel
theorem dX4_advance_137 : decode cX4_advance 137 = .ok (.putfield 29, 3) := by decide +kernel
theorem dX4_advance_140 : decode cX4_advance 140 = .ok (.aload_n 0, 1) := by decide +kernel
theorem dX4_advance_141 : decode cX4_advance 141 = .ok (.invokevirtual 42, 3) := by decide +kernel
theorem dX4_advance_144 : decode cX4_advance 144 = .ok (.goto 36, 3) := by decide +kernel
theorem dX4_advance_147 : decode cX4_advance 147 = .ok (.aload_n 0, 1) := by decide +kernel
theorem dX4_advance_148 : decode cX4_advance 148 = .ok (.aload_n 0, 1) := by decide +kernel
theorem dX4_advance_149 : decode cX4_advance 149 = .ok (.getfield 11, 3) := by decide +kernel
theorem dX4_advance_152 : decode cX4_advance 152 = .ok (.aload_n 0, 1) := by decide +kernel
theorem dX4_advance_153 : decode cX4_advance 153 = .ok (.getfield 32, 3) := by decide +kernel
theorem dX4_advance_156 : decode cX4_advance 156 = .ok (.iaload, 1) := by decide +kernel
theorem dX4_advance_157 : decode cX4_advance 157 = .ok (.bipush 59, 2) := by decide +kernel
theorem dX4_advance_159 : decode cX4_advance 159 = .ok (.if_icmp .ne 7, 3) := by decide +kernel
theorem dX4_advance_162 : decode cX4_advance 162 = .ok (.iconst 3, 1) := by decide +kernel
theorem dX4_advance_163 : decode cX4_advance 163 = .ok (.goto 4, 3) := by decide +kernel
theorem dX4_advance_166 : decode cX4_advance 166 = .ok (.iconst 4, 1) := by decide +kernel
theorem dX4_advance_167 : decode cX4_advance 167 = .ok (.putfield 29, 3) := by decide +kernel
theorem dX4_advance_170 : decode cX4_advance 170 = .ok (.aload_n 0, 1) := by decide +kernel
theorem dX4_advance_171 : decode cX4_advance 171 = .ok (.aload_n 0, 1) := by decide +kernel
theorem dX4_advance_172 : decode cX4_advance 172 = .ok (.getfield 32, 3) := by decide +kernel
theorem dX4_advance_175 : decode cX4_advance 175 = .ok (.iconst 1, 1) := by decide +kernel
theorem dX4_advance_176 : decode cX4_advance 176 = .ok (.iadd, 1) := by decide +kernel
theorem dX4_advance_177 : decode cX4_advance 177 = .ok (.putfield 19, 3) := by decide +kernel
theorem dX4_advance_180 : decode cX4_advance 180 = .ok (.return_, 1) := by decide +kernel
end
section
theorem dX4_readNumber_0 : decode cX4_readNumber 0 = .ok (.aload_n 0, 1) := by decide +kernel
theorem dX4_readNumber_1 : decode cX4_readNumber 1 = .ok (.iconst 0, 1) := by decide +kernel
theorem dX4_readNumber_2 : decode cX4_readNumber 2 = .ok (.putfield 45, 3) := by decide +kernel
theorem dX4_readNumber_5 : decode cX4_readNumber 5 = .ok (.aload_n 0, 1) := by decide +kernel
theorem dX4_readNumber_6 : decode cX4_readNumber 6 = .ok (.getfield 19, 3) := by decide +kernel
theorem dX4_readNumber_9 : decode cX4_readNumber 9 = .ok (.aload_n 0, 1) := by decide +kernel
theorem dX4_readNumber_10 : decode cX4_readNumber 10 = .ok (.getfield 15, 3) := by decide +kernel
theorem dX4_readNumber_13 : decode cX4_readNumber 13 = .ok (.if_icmp .ge 57, 3) := by decide +kernel
theorem dX4_readNumber_16 : decode cX4_readNumber 16 = .ok (.aload_n 0, 1) := by decide +kernel
theorem dX4_readNumber_17 : decode cX4_readNumber 17 = .ok (.aload_n 0, 1) := by decide +kernel
theorem dX4_readNumber_18 : decode cX4_readNumber 18 = .ok (.getfield 19, 3) := by decide +kernel
theorem dX4_readNumber_21 : decode cX4_readNumber 21 = .ok (.invokevirtual 39, 3) := by decide +kernel
theorem dX4_readNumber_24 : decode cX4_readNumber 24 = .ok (.ifCond .eq 46, 3) := by decide +kernel
theorem dX4_readNumber_27 : decode cX4_readNumber 27 = .ok (.aload_n 0, 1) := by decide +kernel
theorem dX4_readNumber_28 : decode cX4_readNumber 28 = .ok (.sipush 10000, 3) := by decide +kernel
theorem dX4_readNumber_31 : decode cX4_readNumber 31 = .ok (.aload_n 0, 1) := by decide +kernel
theorem dX4_readNumber_32 : decode cX4_readNumber 32 = .ok (.getfield 45, 3) := by decide +kernel
theorem dX4_readNumber_35 : decode cX4_readNumber 35 = .ok (.bipush 10, 2) := by decide +kernel
theorem dX4_readNumber_37 : decode cX4_readNumber 37 = .ok (.imul, 1) := by decide +kernel
theorem dX4_readNumber_38 : decode cX4_readNumber 38 = .ok (.aload_n 0, 1) := by decide +kernel
theorem dX4_readNumber_39 : decode cX4_readNumber 39 = .ok (.getfield 11, 3) := by decide +kernel
theorem dX4_readNumber_42 : decode cX4_readNumber 42 = .ok (.aload_n 0, 1) := by decide +kernel
theorem dX4_readNumber_43 : decode cX4_readNumber 43 = .ok (.getfield 19, 3) := by decide +kernel
theorem dX4_readNumber_46 : decode cX4_readNumber 46 = .ok (.iaload, 1) := by decide +kernel
theorem dX4_readNumber_47 : decode cX4_readNumber 47 = .ok (.iadd, 1) := by decide +kernel
theorem dX4_readNumber_48 : decode cX4_readNumber 48 = .ok (.bipush 48, 2) := by decide +kernel
theorem dX4_readNumber_50 : decode cX4_readNumber 50 = .ok (.isub, 1) := by decide +kernel
theorem dX4_readNumber_51 : decode cX4_readNumber 51 = .ok (.invokestatic 48, 3) := by decide +kernel
theorem dX4_readNumber_54 : decode cX4_readNumber 54 = .ok (.putfield 45, 3) := by decide +kernel
theorem dX4_readNumber_57 : decode cX4_readNumber 57 = .ok (.aload_n 0, 1) := by decide +kernel
theorem dX4_readNumber_58 : decode cX4_readNumber 58 = .ok (.dup, 1) := by decide +kernel
theorem dX4_readNumber_59 : decode cX4_readNumber 59 = .ok (.getfield 19, 3) := by decide +kernel
theorem dX4_readNumber_62 : decode cX4_readNumber 62 = .ok (.iconst 1, 1) := by decide +kernel
theorem dX4_readNumber_63 : decode cX4_readNumber 63 = .ok (.iadd, 1) := by decide +kernel
theorem dX4_readNumber_64 : decode cX4_readNumber 64 = .ok (.putfield 19, 3) := by decide +kernel
theorem dX4_readNumber_67 : decode cX4_readNumber 67 = .ok (.goto (-62), 3) := by decide +kernel
theorem dX4_readNumber_70 : decode cX4_readNumber 70 = .ok (.return_, 1) := by decide +kernel
theorem dX4_isLetter_0 : decode cX4_isLetter 0 = .ok (.aload_n 0, 1) := by decide +kernel
theorem dX4_isLetter_1 : decode cX4_isLetter 1 = .ok (.getfield 11, 3) := by decide +kernel
theorem dX4_isLetter_4 : decode cX4_isLetter 4 = .ok (.iload_n 1, 1) := by decide +kernel
theorem dX4_isLetter_5 : decode cX4_isLetter 5 = .ok (.iaload, 1) := by decide +kernel
theorem dX4_isLetter_6 : decode cX4_isLetter 6 = .ok (.bipush 97, 2) := by decide +kernel
theorem dX4_isLetter_8 : decode cX4_isLetter 8 = .ok (.if_icmp .lt 18, 3) := by decide +kernel
theorem dX4_isLetter_11 : decode cX4_isLetter 11 = .ok (.aload_n 0, 1) := by decide +kernel
theorem dX4_isLetter_12 : decode cX4_isLetter 12 = .ok (.getfield 11, 3) := by decide +kernel
theorem dX4_isLetter_15 : decode cX4_isLetter 15 = .ok (.iload_n 1, 1) := by decide +kernel
theorem dX4_isLetter_16 : decode cX4_isLetter 16 = .ok (.iaload, 1) := by decide +kernel
theorem dX4_isLetter_17 : decode cX4_isLetter 17 = .ok (.bipush 122, 2) := by decide +kernel
theorem dX4_isLetter_19 : decode cX4_isLetter 19 = .ok (.if_icmp .gt 7, 3) := by decide +kernel
theorem dX4_isLetter_22 : decode cX4_isLetter 22 = .ok (.iconst 1, 1) := by decide +kernel
theorem dX4_isLetter_23 : decode cX4_isLetter 23 = .ok (.goto 4, 3) := by decide +kernel
theorem dX4_isLetter_26 : decode cX4_isLetter 26 = .ok (.iconst 0, 1) := by decide +kernel
theorem dX4_isLetter_27 : decode cX4_isLetter 27 = .ok (.ireturn, 1) := by decide +kernel
theorem dX4_isDigit_0 : decode cX4_isDigit 0 = .ok (.aload_n 0, 1) := by decide +kernel
theorem dX4_isDigit_1 : decode cX4_isDigit 1 = .ok (.getfield 11, 3) := by decide +kernel
theorem dX4_isDigit_4 : decode cX4_isDigit 4 = .ok (.iload_n 1, 1) := by decide +kernel
theorem dX4_isDigit_5 : decode cX4_isDigit 5 = .ok (.iaload, 1) := by decide +kernel
theorem dX4_isDigit_6 : decode cX4_isDigit 6 = .ok (.bipush 48, 2) := by decide +kernel
theorem dX4_isDigit_8 : decode cX4_isDigit 8 = .ok (.if_icmp .lt 18, 3) := by decide +kernel
theorem dX4_isDigit_11 : decode cX4_isDigit 11 = .ok (.aload_n 0, 1) := by decide +kernel
theorem dX4_isDigit_12 : decode cX4_isDigit 12 = .ok (.getfield 11, 3) := by decide +kernel
theorem dX4_isDigit_15 : decode cX4_isDigit 15 = .ok (.iload_n 1, 1) := by decide +kernel
theorem dX4_isDigit_16 : decode cX4_isDigit 16 = .ok (.iaload, 1) := by decide +kernel
theorem dX4_isDigit_17 : decode cX4_isDigit 17 = .ok (.bipush 57, 2) := by decide +kernel
theorem dX4_isDigit_19 : decode cX4_isDigit 19 = .ok (.if_icmp .gt 7, 3) := by decide +kernel
theorem dX4_isDigit_22 : decode cX4_isDigit 22 = .ok (.iconst 1, 1) := by decide +kernel
theorem dX4_isDigit_23 : decode cX4_isDigit 23 = .ok (.goto 4, 3) := by decide +kernel
theorem dX4_isDigit_26 : decode cX4_isDigit 26 = .ok (.iconst 0, 1) := by decide +kernel
theorem dX4_isDigit_27 : decode cX4_isDigit 27 = .ok (.ireturn, 1) := by decide +kernel
theorem dX4_isWord_0 : decode cX4_isWord 0 = .ok (.aload_n 0, 1) := by decide +kernel
theorem dX4_isWord_1 : decode cX4_isWord 1 = .ok (.getfield 29, 3) := by decide +kernel
theorem dX4_isWord_4 : decode cX4_isWord 4 = .ok (.iconst 1, 1) := by decide +kernel
theorem dX4_isWord_5 : decode cX4_isWord 5 = .ok (.if_icmp .ne 19, 3) := by decide +kernel
theorem dX4_isWord_8 : decode cX4_isWord 8 = .ok (.aload_n 0, 1) := by decide +kernel
theorem dX4_isWord_9 : decode cX4_isWord 9 = .ok (.getfield 19, 3) := by decide +kernel
theorem dX4_isWord_12 : decode cX4_isWord 12 = .ok (.aload_n 0, 1) := by decide +kernel
theorem dX4_isWord_13 : decode cX4_isWord 13 = .ok (.getfield 32, 3) := by decide +kernel
theorem dX4_isWord_16 : decode cX4_isWord 16 = .ok (.isub, 1) := by decide +kernel
theorem dX4_isWord_17 : decode cX4_isWord 17 = .ok (.aload_n 1, 1) := by decide +kernel
theorem dX4_isWord_18 : decode cX4_isWord 18 = .ok (.invokevirtual 54, 3) := by decide +kernel
theorem dX4_isWord_21 : decode cX4_isWord 21 = .ok (.if_icmp .eq 5, 3) := by decide +kernel
theorem dX4_isWord_24 : decode cX4_isWord 24 = .ok (.iconst 0, 1) := by decide +kernel
theorem dX4_isWord_25 : decode cX4_isWord 25 = .ok (.ireturn, 1) := by decide +kernel
theorem dX4_isWord_26 : decode cX4_isWord 26 = .ok (.iconst 0, 1) := by decide +kernel
theorem dX4_isWord_27 : decode cX4_isWord 27 = .ok (.istore_n 2, 1) := by decide +kernel
theorem dX4_isWord_28 : decode cX4_isWord 28 = .ok (.iload_n 2, 1) := by decide +kernel
theorem dX4_isWord_29 : decode cX4_isWord 29 = .ok (.aload_n 1, 1) := by decide +kernel
theorem dX4_isWord_30 : decode cX4_isWord 30 = .ok (.invokevirtual 54, 3) := by decide +kernel
theorem dX4_isWord_33 : decode cX4_isWord 33 = .ok (.if_icmp .ge 30, 3) := by decide +kernel
theorem dX4_isWord_36 : decode cX4_isWord 36 = .ok (.aload_n 0, 1) := by decide +kernel
theorem dX4_isWord_37 : decode cX4_isWord 37 = .ok (.getfield 11, 3) := by decide +kernel
theorem dX4_isWord_40 : decode cX4_isWord 40 = .ok (.aload_n 0, 1) := by decide +kernel
theorem dX4_isWord_41 : decode cX4_isWord 41 = .ok (.getfield 32, 3) := by decide +kernel
theorem dX4_isWord_44 : decode cX4_isWord 44 = .ok (.iload_n 2, 1) := by decide +kernel
theorem dX4_isWord_45 : decode cX4_isWord 45 = .ok (.iadd, 1) := by decide +kernel
theorem dX4_isWord_46 : decode cX4_isWord 46 = .ok (.iaload, 1) := by decide +kernel
theorem dX4_isWord_47 : decode cX4_isWord 47 = .ok (.aload_n 1, 1) := by decide +kernel
theorem dX4_isWord_48 : decode cX4_isWord 48 = .ok (.iload_n 2, 1) := by decide +kernel
theorem dX4_isWord_49 : decode cX4_isWord 49 = .ok (.invokevirtual 59, 3) := by decide +kernel
theorem dX4_isWord_52 : decode cX4_isWord 52 = .ok (.if_icmp .eq 5, 3) := by decide +kernel
theorem dX4_isWord_55 : decode cX4_isWord 55 = .ok (.iconst 0, 1) := by decide +kernel
theorem dX4_isWord_56 : decode cX4_isWord 56 = .ok (.ireturn, 1) := by decide +kernel
theorem dX4_isWord_57 : decode cX4_isWord 57 = .ok (.iinc 2 1, 3) := by decide +kernel
theorem dX4_isWord_60 : decode cX4_isWord 60 = .ok (.goto (-32), 3) := by decide +kernel
theorem dX4_isWord_63 : decode cX4_isWord 63 = .ok (.iconst 1, 1) := by decide +kernel
theorem dX4_isWord_64 : decode cX4_isWord 64 = .ok (.ireturn, 1) := by decide +kernel
theorem dX4_passWord_0 : decode cX4_passWord 0 = .ok (.aload_n 0, 1) := by decide +kernel
theorem dX4_passWord_1 : decode cX4_passWord 1 = .ok (.aload_n 1, 1) := by decide +kernel
theorem dX4_passWord_2 : decode cX4_passWord 2 = .ok (.invokevirtual 63, 3) := by decide +kernel
theorem dX4_passWord_5 : decode cX4_passWord 5 = .ok (.istore_n 2, 1) := by decide +kernel
theorem dX4_passWord_6 : decode cX4_passWord 6 = .ok (.iload_n 2, 1) := by decide +kernel
theorem dX4_passWord_7 : decode cX4_passWord 7 = .ok (.ifCond .eq 7, 3) := by decide +kernel
theorem dX4_passWord_10 : decode cX4_passWord 10 = .ok (.aload_n 0, 1) := by decide +kernel
theorem dX4_passWord_11 : decode cX4_passWord 11 = .ok (.invokevirtual 22, 3) := by decide +kernel
theorem dX4_passWord_14 : decode cX4_passWord 14 = .ok (.iload_n 2, 1) := by decide +kernel
theorem dX4_passWord_15 : decode cX4_passWord 15 = .ok (.ireturn, 1) := by decide +kernel
theorem dX4_passNumber_0 : decode cX4_passNumber 0 = .ok (.aload_n 0, 1) := by decide +kernel
theorem dX4_passNumber_1 : decode cX4_passNumber 1 = .ok (.getfield 29, 3) := by decide +kernel
theorem dX4_passNumber_4 : decode cX4_passNumber 4 = .ok (.iconst 2, 1) := by decide +kernel
theorem dX4_passNumber_5 : decode cX4_passNumber 5 = .ok (.if_icmp .ne 19, 3) := by decide +kernel
theorem dX4_passNumber_8 : decode cX4_passNumber 8 = .ok (.aload_n 0, 1) := by decide +kernel
theorem dX4_passNumber_9 : decode cX4_passNumber 9 = .ok (.getfield 45, 3) := by decide +kernel
theorem dX4_passNumber_12 : decode cX4_passNumber 12 = .ok (.iload_n 1, 1) := by decide +kernel
theorem dX4_passNumber_13 : decode cX4_passNumber 13 = .ok (.if_icmp .lt 11, 3) := by decide +kernel
theorem dX4_passNumber_16 : decode cX4_passNumber 16 = .ok (.aload_n 0, 1) := by decide +kernel
theorem dX4_passNumber_17 : decode cX4_passNumber 17 = .ok (.getfield 45, 3) := by decide +kernel
theorem dX4_passNumber_20 : decode cX4_passNumber 20 = .ok (.iload_n 2, 1) := by decide +kernel
theorem dX4_passNumber_21 : decode cX4_passNumber 21 = .ok (.if_icmp .le 5, 3) := by decide +kernel
theorem dX4_passNumber_24 : decode cX4_passNumber 24 = .ok (.iconst (-1), 1) := by decide +kernel
theorem dX4_passNumber_25 : decode cX4_passNumber 25 = .ok (.ireturn, 1) := by decide +kernel
theorem dX4_passNumber_26 : decode cX4_passNumber 26 = .ok (.aload_n 0, 1) := by decide +kernel
theorem dX4_passNumber_27 : decode cX4_passNumber 27 = .ok (.getfield 45, 3) := by decide +kernel
theorem dX4_passNumber_30 : decode cX4_passNumber 30 = .ok (.istore_n 3, 1) := by decide +kernel
theorem dX4_passNumber_31 : decode cX4_passNumber 31 = .ok (.aload_n 0, 1) := by decide +kernel
theorem dX4_passNumber_32 : decode cX4_passNumber 32 = .ok (.invokevirtual 22, 3) := by decide +kernel
theorem dX4_passNumber_35 : decode cX4_passNumber 35 = .ok (.iload_n 3, 1) := by decide +kernel
theorem dX4_passNumber_36 : decode cX4_passNumber 36 = .ok (.ireturn, 1) := by decide +kernel
theorem dX4_readItem_0 : decode cX4_readItem 0 = .ok (.aload_n 0, 1) := by decide +kernel
theorem dX4_readItem_1 : decode cX4_readItem 1 = .ok (.ldc 67, 2) := by decide +kernel
theorem dX4_readItem_3 : decode cX4_readItem 3 = .ok (.invokevirtual 69, 3) := by decide +kernel
theorem dX4_readItem_6 : decode cX4_readItem 6 = .ok (.ifCond .eq 9, 3) := by decide +kernel
theorem dX4_readItem_9 : decode cX4_readItem 9 = .ok (.aload_n 0, 1) := by decide +kernel
theorem dX4_readItem_10 : decode cX4_readItem 10 = .ok (.aload_n 1, 1) := by decide +kernel
theorem dX4_readItem_11 : decode cX4_readItem 11 = .ok (.invokevirtual 72, 3) := by decide +kernel
theorem dX4_readItem_14 : decode cX4_readItem 14 = .ok (.ireturn, 1) := by decide +kernel
theorem dX4_readItem_15 : decode cX4_readItem 15 = .ok (.aload_n 0, 1) := by decide +kernel
theorem dX4_readItem_16 : decode cX4_readItem 16 = .ok (.ldc 75, 2) := by decide +kernel
theorem dX4_readItem_18 : decode cX4_readItem 18 = .ok (.invokevirtual 63, 3) := by decide +kernel
theorem dX4_readItem_21 : decode cX4_readItem 21 = .ok (.ifCond .eq 26, 3) := by decide +kernel
theorem dX4_readItem_24 : decode cX4_readItem 24 = .ok (.aload_n 1, 1) := by decide +kernel
theorem dX4_readItem_25 : decode cX4_readItem 25 = .ok (.getfield 77, 3) := by decide +kernel
theorem dX4_readItem_28 : decode cX4_readItem 28 = .ok (.bipush 8, 2) := by decide +kernel
theorem dX4_readItem_30 : decode cX4_readItem 30 = .ok (.if_icmp .ge 15, 3) := by decide +kernel
theorem dX4_readItem_33 : decode cX4_readItem 33 = .ok (.aload_n 0, 1) := by decide +kernel
theorem dX4_readItem_34 : decode cX4_readItem 34 = .ok (.aload_n 1, 1) := by decide +kernel
theorem dX4_readItem_35 : decode cX4_readItem 35 = .ok (.invokevirtual 82, 3) := by decide +kernel
theorem dX4_readItem_38 : decode cX4_readItem 38 = .ok (.ifCond .eq 7, 3) := by decide +kernel
theorem dX4_readItem_41 : decode cX4_readItem 41 = .ok (.iconst 1, 1) := by decide +kernel
theorem dX4_readItem_42 : decode cX4_readItem 42 = .ok (.goto 4, 3) := by decide +kernel
theorem dX4_readItem_45 : decode cX4_readItem 45 = .ok (.iconst 0, 1) := by decide +kernel
theorem dX4_readItem_46 : decode cX4_readItem 46 = .ok (.ireturn, 1) := by decide +kernel
theorem dX4_readItem_47 : decode cX4_readItem 47 = .ok (.aload_n 0, 1) := by decide +kernel
theorem dX4_readItem_48 : decode cX4_readItem 48 = .ok (.invokevirtual 85, 3) := by decide +kernel
theorem dX4_readItem_51 : decode cX4_readItem 51 = .ok (.istore_n 2, 1) := by decide +kernel
theorem dX4_readItem_52 : decode cX4_readItem 52 = .ok (.iload_n 2, 1) := by decide +kernel
theorem dX4_readItem_53 : decode cX4_readItem 53 = .ok (.ifCond .lt 25, 3) := by decide +kernel
theorem dX4_readItem_56 : decode cX4_readItem 56 = .ok (.aload_n 1, 1) := by decide +kernel
theorem dX4_readItem_57 : decode cX4_readItem 57 = .ok (.getfield 88, 3) := by decide +kernel
theorem dX4_readItem_60 : decode cX4_readItem 60 = .ok (.bipush 20, 2) := by decide +kernel
theorem dX4_readItem_62 : decode cX4_readItem 62 = .ok (.if_icmp .ge 16, 3) := by decide +kernel
theorem dX4_readItem_65 : decode cX4_readItem 65 = .ok (.aload_n 0, 1) := by decide +kernel
theorem dX4_readItem_66 : decode cX4_readItem 66 = .ok (.aload_n 1, 1) := by decide +kernel
theorem dX4_readItem_67 : decode cX4_readItem 67 = .ok (.iload_n 2, 1) := by decide +kernel
theorem dX4_readItem_68 : decode cX4_readItem 68 = .ok (.invokevirtual 91, 3) := by decide +kernel
theorem dX4_readItem_71 : decode cX4_readItem 71 = .ok (.ifCond .eq 7, 3) := by decide +kernel
theorem dX4_readItem_74 : decode cX4_readItem 74 = .ok (.iconst 1, 1) := by decide +kernel
theorem dX4_readItem_75 : decode cX4_readItem 75 = .ok (.goto 4, 3) := by decide +kernel
theorem dX4_readItem_78 : decode cX4_readItem 78 = .ok (.iconst 0, 1) := by decide +kernel
theorem dX4_readItem_79 : decode cX4_readItem 79 = .ok (.ireturn, 1) := by decide +kernel
theorem dX4_kindHere_0 : decode cX4_kindHere 0 = .ok (.aload_n 0, 1) := by decide +kernel
theorem dX4_kindHere_1 : decode cX4_kindHere 1 = .ok (.ldc 95, 2) := by decide +kernel
theorem dX4_kindHere_3 : decode cX4_kindHere 3 = .ok (.invokevirtual 63, 3) := by decide +kernel
theorem dX4_kindHere_6 : decode cX4_kindHere 6 = .ok (.ifCond .eq 5, 3) := by decide +kernel
theorem dX4_kindHere_9 : decode cX4_kindHere 9 = .ok (.iconst 0, 1) := by decide +kernel
theorem dX4_kindHere_10 : decode cX4_kindHere 10 = .ok (.ireturn, 1) := by decide +kernel
theorem dX4_kindHere_11 : decode cX4_kindHere 11 = .ok (.aload_n 0, 1) := by decide +kernel
theorem dX4_kindHere_12 : decode cX4_kindHere 12 = .ok (.ldc 99, 2) := by decide +kernel
theorem dX4_kindHere_14 : decode cX4_kindHere 14 = .ok (.invokevirtual 63, 3) := by decide +kernel
theorem dX4_kindHere_17 : decode cX4_kindHere 17 = .ok (.ifCond .eq 5, 3) := by decide +kernel
theorem dX4_kindHere_20 : decode cX4_kindHere 20 = .ok (.iconst 1, 1) := by decide +kernel
theorem dX4_kindHere_21 : decode cX4_kindHere 21 = .ok (.ireturn, 1) := by decide +kernel
theorem dX4_kindHere_22 : decode cX4_kindHere 22 = .ok (.aload_n 0, 1) := by decide +kernel
theorem dX4_kindHere_23 : decode cX4_kindHere 23 = .ok (.ldc 101, 2) := by decide +kernel
theorem dX4_kindHere_25 : decode cX4_kindHere 25 = .ok (.invokevirtual 63, 3) := by decide +kernel
theorem dX4_kindHere_28 : decode cX4_kindHere 28 = .ok (.ifCond .eq 5, 3) := by decide +kernel
theorem dX4_kindHere_31 : decode cX4_kindHere 31 = .ok (.iconst 2, 1) := by decide +kernel
theorem dX4_kindHere_32 : decode cX4_kindHere 32 = .ok (.ireturn, 1) := by decide +kernel
theorem dX4_kindHere_33 : decode cX4_kindHere 33 = .ok (.aload_n 0, 1) := by decide +kernel
theorem dX4_kindHere_34 : decode cX4_kindHere 34 = .ok (.ldc 103, 2) := by decide +kernel
theorem dX4_kindHere_36 : decode cX4_kindHere 36 = .ok (.invokevirtual 63, 3) := by decide +kernel
theorem dX4_kindHere_39 : decode cX4_kindHere 39 = .ok (.ifCond .eq 5, 3) := by decide +kernel
theorem dX4_kindHere_42 : decode cX4_kindHere 42 = .ok (.iconst 3, 1) := by decide +kernel
theorem dX4_kindHere_43 : decode cX4_kindHere 43 = .ok (.ireturn, 1) := by decide +kernel
theorem dX4_kindHere_44 : decode cX4_kindHere 44 = .ok (.aload_n 0, 1) := by decide +kernel
theorem dX4_kindHere_45 : decode cX4_kindHere 45 = .ok (.ldc 105, 2) := by decide +kernel
theorem dX4_kindHere_47 : decode cX4_kindHere 47 = .ok (.invokevirtual 63, 3) := by decide +kernel
theorem dX4_kindHere_50 : decode cX4_kindHere 50 = .ok (.ifCond .eq 5, 3) := by decide +kernel
theorem dX4_kindHere_53 : decode cX4_kindHere 53 = .ok (.iconst 4, 1) := by decide +kernel
theorem dX4_kindHere_54 : decode cX4_kindHere 54 = .ok (.ireturn, 1) := by decide +kernel
theorem dX4_kindHere_55 : decode cX4_kindHere 55 = .ok (.aload_n 0, 1) := by decide +kernel
theorem dX4_kindHere_56 : decode cX4_kindHere 56 = .ok (.ldc 107, 2) := by decide +kernel
theorem dX4_kindHere_58 : decode cX4_kindHere 58 = .ok (.invokevirtual 63, 3) := by decide +kernel
theorem dX4_kindHere_61 : decode cX4_kindHere 61 = .ok (.ifCond .eq 5, 3) := by decide +kernel
theorem dX4_kindHere_64 : decode cX4_kindHere 64 = .ok (.iconst 5, 1) := by decide +kernel
theorem dX4_kindHere_65 : decode cX4_kindHere 65 = .ok (.ireturn, 1) := by decide +kernel
theorem dX4_kindHere_66 : decode cX4_kindHere 66 = .ok (.aload_n 0, 1) := by decide +kernel
theorem dX4_kindHere_67 : decode cX4_kindHere 67 = .ok (.ldc 109, 2) := by decide +kernel
theorem dX4_kindHere_69 : decode cX4_kindHere 69 = .ok (.invokevirtual 63, 3) := by decide +kernel
theorem dX4_kindHere_72 : decode cX4_kindHere 72 = .ok (.ifCond .eq 8, 3) := by decide +kernel
theorem dX4_kindHere_75 : decode cX4_kindHere 75 = .ok (.bipush 6, 2) := by decide +kernel
theorem dX4_kindHere_77 : decode cX4_kindHere 77 = .ok (.goto 4, 3) := by decide +kernel
theorem dX4_kindHere_80 : decode cX4_kindHere 80 = .ok (.iconst (-1), 1) := by decide +kernel
theorem dX4_kindHere_81 : decode cX4_kindHere 81 = .ok (.ireturn, 1) := by decide +kernel
theorem dX4_readName_0 : decode cX4_readName 0 = .ok (.aload_n 0, 1) := by decide +kernel
theorem dX4_readName_1 : decode cX4_readName 1 = .ok (.iconst 0, 1) := by decide +kernel
theorem dX4_readName_2 : decode cX4_readName 2 = .ok (.bipush 7, 2) := by decide +kernel
theorem dX4_readName_4 : decode cX4_readName 4 = .ok (.invokevirtual 111, 3) := by decide +kernel
theorem dX4_readName_7 : decode cX4_readName 7 = .ok (.istore_n 2, 1) := by decide +kernel
theorem dX4_readName_8 : decode cX4_readName 8 = .ok (.iload_n 2, 1) := by decide +kernel
theorem dX4_readName_9 : decode cX4_readName 9 = .ok (.ifCond .lt 12, 3) := by decide +kernel
theorem dX4_readName_12 : decode cX4_readName 12 = .ok (.aload_n 0, 1) := by decide +kernel
theorem dX4_readName_13 : decode cX4_readName 13 = .ok (.ldc 114, 2) := by decide +kernel
theorem dX4_readName_15 : decode cX4_readName 15 = .ok (.invokevirtual 69, 3) := by decide +kernel
theorem dX4_readName_18 : decode cX4_readName 18 = .ok (.ifCond .ne 5, 3) := by decide +kernel
theorem dX4_readName_21 : decode cX4_readName 21 = .ok (.iconst 0, 1) := by decide +kernel
theorem dX4_readName_22 : decode cX4_readName 22 = .ok (.ireturn, 1) := by decide +kernel
theorem dX4_readName_23 : decode cX4_readName 23 = .ok (.aload_n 0, 1) := by decide +kernel
theorem dX4_readName_24 : decode cX4_readName 24 = .ok (.iconst 0, 1) := by decide +kernel
theorem dX4_readName_25 : decode cX4_readName 25 = .ok (.bipush 99, 2) := by decide +kernel
theorem dX4_readName_27 : decode cX4_readName 27 = .ok (.invokevirtual 111, 3) := by decide +kernel
theorem dX4_readName_30 : decode cX4_readName 30 = .ok (.istore_n 3, 1) := by decide +kernel
theorem dX4_readName_31 : decode cX4_readName 31 = .ok (.iload_n 3, 1) := by decide +kernel
theorem dX4_readName_32 : decode cX4_readName 32 = .ok (.ifCond .ge 5, 3) := by decide +kernel
theorem dX4_readName_35 : decode cX4_readName 35 = .ok (.iconst 0, 1) := by decide +kernel
theorem dX4_readName_36 : decode cX4_readName 36 = .ok (.ireturn, 1) := by decide +kernel
theorem dX4_readName_37 : decode cX4_readName 37 = .ok (.aload_n 1, 1) := by decide +kernel
theorem dX4_readName_38 : decode cX4_readName 38 = .ok (.getfield 116, 3) := by decide +kernel
theorem dX4_readName_41 : decode cX4_readName 41 = .ok (.iload_n 2, 1) := by decide +kernel
theorem dX4_readName_42 : decode cX4_readName 42 = .ok (.iload_n 3, 1) := by decide +kernel
theorem dX4_readName_43 : decode cX4_readName 43 = .ok (.iastore, 1) := by decide +kernel
theorem dX4_readName_44 : decode cX4_readName 44 = .ok (.iconst 1, 1) := by decide +kernel
theorem dX4_readName_45 : decode cX4_readName 45 = .ok (.ireturn, 1) := by decide +kernel
theorem dX4_readTask_0 : decode cX4_readTask 0 = .ok (.aload_n 0, 1) := by decide +kernel
theorem dX4_readTask_1 : decode cX4_readTask 1 = .ok (.invokevirtual 22, 3) := by decide +kernel
theorem dX4_readTask_4 : decode cX4_readTask 4 = .ok (.aload_n 0, 1) := by decide +kernel
theorem dX4_readTask_5 : decode cX4_readTask 5 = .ok (.iconst 0, 1) := by decide +kernel
theorem dX4_readTask_6 : decode cX4_readTask 6 = .ok (.bipush 7, 2) := by decide +kernel
theorem dX4_readTask_8 : decode cX4_readTask 8 = .ok (.invokevirtual 111, 3) := by decide +kernel
theorem dX4_readTask_11 : decode cX4_readTask 11 = .ok (.istore_n 3, 1) := by decide +kernel
theorem dX4_readTask_12 : decode cX4_readTask 12 = .ok (.iload_n 3, 1) := by decide +kernel
theorem dX4_readTask_13 : decode cX4_readTask 13 = .ok (.ifCond .lt 12, 3) := by decide +kernel
theorem dX4_readTask_16 : decode cX4_readTask 16 = .ok (.aload_n 0, 1) := by decide +kernel
theorem dX4_readTask_17 : decode cX4_readTask 17 = .ok (.ldc 119, 2) := by decide +kernel
theorem dX4_readTask_19 : decode cX4_readTask 19 = .ok (.invokevirtual 69, 3) := by decide +kernel
theorem dX4_readTask_22 : decode cX4_readTask 22 = .ok (.ifCond .ne 5, 3) := by decide +kernel
theorem dX4_readTask_25 : decode cX4_readTask 25 = .ok (.iconst 0, 1) := by decide +kernel
theorem dX4_readTask_26 : decode cX4_readTask 26 = .ok (.ireturn, 1) := by decide +kernel
theorem dX4_readTask_27 : decode cX4_readTask 27 = .ok (.aload_n 0, 1) := by decide +kernel
theorem dX4_readTask_28 : decode cX4_readTask 28 = .ok (.iconst 1, 1) := by decide +kernel
theorem dX4_readTask_29 : decode cX4_readTask 29 = .ok (.sipush 999, 3) := by decide +kernel
theorem dX4_readTask_32 : decode cX4_readTask 32 = .ok (.invokevirtual 111, 3) := by decide +kernel
theorem dX4_readTask_35 : decode cX4_readTask 35 = .ok (.istore 4, 2) := by decide +kernel
theorem dX4_readTask_37 : decode cX4_readTask 37 = .ok (.iload 4, 2) := by decide +kernel
theorem dX4_readTask_39 : decode cX4_readTask 39 = .ok (.ifCond .ge 5, 3) := by decide +kernel
theorem dX4_readTask_42 : decode cX4_readTask 42 = .ok (.iconst 0, 1) := by decide +kernel
theorem dX4_readTask_43 : decode cX4_readTask 43 = .ok (.ireturn, 1) := by decide +kernel
theorem dX4_readTask_44 : decode cX4_readTask 44 = .ok (.iconst (-1), 1) := by decide +kernel
theorem dX4_readTask_45 : decode cX4_readTask 45 = .ok (.istore 5, 2) := by decide +kernel
theorem dX4_readTask_47 : decode cX4_readTask 47 = .ok (.aload_n 0, 1) := by decide +kernel
theorem dX4_readTask_48 : decode cX4_readTask 48 = .ok (.ldc 121, 2) := by decide +kernel
theorem dX4_readTask_50 : decode cX4_readTask 50 = .ok (.invokevirtual 69, 3) := by decide +kernel
theorem dX4_readTask_53 : decode cX4_readTask 53 = .ok (.ifCond .eq 23, 3) := by decide +kernel
theorem dX4_readTask_56 : decode cX4_readTask 56 = .ok (.aload_n 0, 1) := by decide +kernel
theorem dX4_readTask_57 : decode cX4_readTask 57 = .ok (.iconst 0, 1) := by decide +kernel
theorem dX4_readTask_58 : decode cX4_readTask 58 = .ok (.aload_n 1, 1) := by decide +kernel
theorem dX4_readTask_59 : decode cX4_readTask 59 = .ok (.getfield 88, 3) := by decide +kernel
theorem dX4_readTask_62 : decode cX4_readTask 62 = .ok (.iconst 1, 1) := by decide +kernel
theorem dX4_readTask_63 : decode cX4_readTask 63 = .ok (.isub, 1) := by decide +kernel
theorem dX4_readTask_64 : decode cX4_readTask 64 = .ok (.invokevirtual 111, 3) := by decide +kernel
theorem dX4_readTask_67 : decode cX4_readTask 67 = .ok (.istore 5, 2) := by decide +kernel
theorem dX4_readTask_69 : decode cX4_readTask 69 = .ok (.iload 5, 2) := by decide +kernel
theorem dX4_readTask_71 : decode cX4_readTask 71 = .ok (.ifCond .ge 5, 3) := by decide +kernel
theorem dX4_readTask_74 : decode cX4_readTask 74 = .ok (.iconst 0, 1) := by decide +kernel
theorem dX4_readTask_75 : decode cX4_readTask 75 = .ok (.ireturn, 1) := by decide +kernel
theorem dX4_readTask_76 : decode cX4_readTask 76 = .ok (.aload_n 1, 1) := by decide +kernel
theorem dX4_readTask_77 : decode cX4_readTask 77 = .ok (.iload_n 2, 1) := by decide +kernel
theorem dX4_readTask_78 : decode cX4_readTask 78 = .ok (.iload_n 3, 1) := by decide +kernel
theorem dX4_readTask_79 : decode cX4_readTask 79 = .ok (.iload 4, 2) := by decide +kernel
theorem dX4_readTask_81 : decode cX4_readTask 81 = .ok (.iload 5, 2) := by decide +kernel
theorem dX4_readTask_83 : decode cX4_readTask 83 = .ok (.invokevirtual 123, 3) := by decide +kernel
theorem dX4_readTask_86 : decode cX4_readTask 86 = .ok (.pop, 1) := by decide +kernel
theorem dX4_readTask_87 : decode cX4_readTask 87 = .ok (.iconst 1, 1) := by decide +kernel
theorem dX4_readTask_88 : decode cX4_readTask 88 = .ok (.ireturn, 1) := by decide +kernel
theorem dX4_readPerson_0 : decode cX4_readPerson 0 = .ok (.aload_n 0, 1) := by decide +kernel
theorem dX4_readPerson_1 : decode cX4_readPerson 1 = .ok (.invokevirtual 22, 3) := by decide +kernel
theorem dX4_readPerson_4 : decode cX4_readPerson 4 = .ok (.aload_n 0, 1) := by decide +kernel
theorem dX4_readPerson_5 : decode cX4_readPerson 5 = .ok (.ldc 127, 2) := by decide +kernel
theorem dX4_readPerson_7 : decode cX4_readPerson 7 = .ok (.invokevirtual 69, 3) := by decide +kernel
theorem dX4_readPerson_10 : decode cX4_readPerson 10 = .ok (.ifCond .eq 13, 3) := by decide +kernel
theorem dX4_readPerson_13 : decode cX4_readPerson 13 = .ok (.aload_n 0, 1) := by decide +kernel
theorem dX4_readPerson_14 : decode cX4_readPerson 14 = .ok (.iconst 1, 1) := by decide +kernel
theorem dX4_readPerson_15 : decode cX4_readPerson 15 = .ok (.bipush 9, 2) := by decide +kernel
theorem dX4_readPerson_17 : decode cX4_readPerson 17 = .ok (.invokevirtual 111, 3) := by decide +kernel
theorem dX4_readPerson_20 : decode cX4_readPerson 20 = .ok (.goto 4, 3) := by decide +kernel
theorem dX4_readPerson_23 : decode cX4_readPerson 23 = .ok (.iconst 3, 1) := by decide +kernel
theorem dX4_readPerson_24 : decode cX4_readPerson 24 = .ok (.istore_n 2, 1) := by decide +kernel
theorem dX4_readPerson_25 : decode cX4_readPerson 25 = .ok (.iload_n 2, 1) := by decide +kernel
theorem dX4_readPerson_26 : decode cX4_readPerson 26 = .ok (.ifCond .ge 5, 3) := by decide +kernel
theorem dX4_readPerson_29 : decode cX4_readPerson 29 = .ok (.iconst 0, 1) := by decide +kernel
theorem dX4_readPerson_30 : decode cX4_readPerson 30 = .ok (.ireturn, 1) := by decide +kernel
theorem dX4_readPerson_31 : decode cX4_readPerson 31 = .ok (.aload_n 0, 1) := by decide +kernel
theorem dX4_readPerson_32 : decode cX4_readPerson 32 = .ok (.ldc 129, 2) := by decide +kernel
theorem dX4_readPerson_34 : decode cX4_readPerson 34 = .ok (.invokevirtual 69, 3) := by decide +kernel
theorem dX4_readPerson_37 : decode cX4_readPerson 37 = .ok (.ifCond .eq 13, 3) := by decide +kernel
theorem dX4_readPerson_40 : decode cX4_readPerson 40 = .ok (.aload_n 0, 1) := by decide +kernel
theorem dX4_readPerson_41 : decode cX4_readPerson 41 = .ok (.iconst 0, 1) := by decide +kernel
theorem dX4_readPerson_42 : decode cX4_readPerson 42 = .ok (.bipush 39, 2) := by decide +kernel
theorem dX4_readPerson_44 : decode cX4_readPerson 44 = .ok (.invokevirtual 111, 3) := by decide +kernel
theorem dX4_readPerson_47 : decode cX4_readPerson 47 = .ok (.goto 4, 3) := by decide +kernel
theorem dX4_readPerson_50 : decode cX4_readPerson 50 = .ok (.iconst 0, 1) := by decide +kernel
theorem dX4_readPerson_51 : decode cX4_readPerson 51 = .ok (.istore_n 3, 1) := by decide +kernel
theorem dX4_readPerson_52 : decode cX4_readPerson 52 = .ok (.iload_n 3, 1) := by decide +kernel
theorem dX4_readPerson_53 : decode cX4_readPerson 53 = .ok (.ifCond .ge 5, 3) := by decide +kernel
theorem dX4_readPerson_56 : decode cX4_readPerson 56 = .ok (.iconst 0, 1) := by decide +kernel
theorem dX4_readPerson_57 : decode cX4_readPerson 57 = .ok (.ireturn, 1) := by decide +kernel
theorem dX4_readPerson_58 : decode cX4_readPerson 58 = .ok (.iconst (-1), 1) := by decide +kernel
theorem dX4_readPerson_59 : decode cX4_readPerson 59 = .ok (.istore 4, 2) := by decide +kernel
theorem dX4_readPerson_61 : decode cX4_readPerson 61 = .ok (.aload_n 0, 1) := by decide +kernel
theorem dX4_readPerson_62 : decode cX4_readPerson 62 = .ok (.ldc 131, 2) := by decide +kernel
theorem dX4_readPerson_64 : decode cX4_readPerson 64 = .ok (.invokevirtual 69, 3) := by decide +kernel
theorem dX4_readPerson_67 : decode cX4_readPerson 67 = .ok (.ifCond .eq 49, 3) := by decide +kernel
theorem dX4_readPerson_70 : decode cX4_readPerson 70 = .ok (.aload_n 0, 1) := by decide +kernel
theorem dX4_readPerson_71 : decode cX4_readPerson 71 = .ok (.getfield 29, 3) := by decide +kernel
theorem dX4_readPerson_74 : decode cX4_readPerson 74 = .ok (.iconst 2, 1) := by decide +kernel
theorem dX4_readPerson_75 : decode cX4_readPerson 75 = .ok (.if_icmp .ne 25, 3) := by decide +kernel
theorem dX4_readPerson_78 : decode cX4_readPerson 78 = .ok (.aload_n 0, 1) := by decide +kernel
theorem dX4_readPerson_79 : decode cX4_readPerson 79 = .ok (.getfield 45, 3) := by decide +kernel
theorem dX4_readPerson_82 : decode cX4_readPerson 82 = .ok (.bipush 8, 2) := by decide +kernel
theorem dX4_readPerson_84 : decode cX4_readPerson 84 = .ok (.if_icmp .ge 16, 3) := by decide +kernel
theorem dX4_readPerson_87 : decode cX4_readPerson 87 = .ok (.aload_n 1, 1) := by decide +kernel
theorem dX4_readPerson_88 : decode cX4_readPerson 88 = .ok (.aload_n 0, 1) := by decide +kernel
theorem dX4_readPerson_89 : decode cX4_readPerson 89 = .ok (.getfield 45, 3) := by decide +kernel
theorem dX4_readPerson_92 : decode cX4_readPerson 92 = .ok (.invokevirtual 133, 3) := by decide +kernel
theorem dX4_readPerson_95 : decode cX4_readPerson 95 = .ok (.ifCond .lt 5, 3) := by decide +kernel
theorem dX4_readPerson_98 : decode cX4_readPerson 98 = .ok (.iconst 0, 1) := by decide +kernel
theorem dX4_readPerson_99 : decode cX4_readPerson 99 = .ok (.ireturn, 1) := by decide +kernel
theorem dX4_readPerson_100 : decode cX4_readPerson 100 = .ok (.aload_n 0, 1) := by decide +kernel
theorem dX4_readPerson_101 : decode cX4_readPerson 101 = .ok (.iconst 0, 1) := by decide +kernel
theorem dX4_readPerson_102 : decode cX4_readPerson 102 = .ok (.bipush 7, 2) := by decide +kernel
theorem dX4_readPerson_104 : decode cX4_readPerson 104 = .ok (.invokevirtual 111, 3) := by decide +kernel
theorem dX4_readPerson_107 : decode cX4_readPerson 107 = .ok (.istore 4, 2) := by decide +kernel
theorem dX4_readPerson_109 : decode cX4_readPerson 109 = .ok (.iload 4, 2) := by decide +kernel
theorem dX4_readPerson_111 : decode cX4_readPerson 111 = .ok (.ifCond .ge 5, 3) := by decide +kernel
theorem dX4_readPerson_114 : decode cX4_readPerson 114 = .ok (.iconst 0, 1) := by decide +kernel
theorem dX4_readPerson_115 : decode cX4_readPerson 115 = .ok (.ireturn, 1) := by decide +kernel
theorem dX4_readPerson_116 : decode cX4_readPerson 116 = .ok (.aload_n 1, 1) := by decide +kernel
theorem dX4_readPerson_117 : decode cX4_readPerson 117 = .ok (.iload_n 2, 1) := by decide +kernel
theorem dX4_readPerson_118 : decode cX4_readPerson 118 = .ok (.iload_n 3, 1) := by decide +kernel
theorem dX4_readPerson_119 : decode cX4_readPerson 119 = .ok (.iload 4, 2) := by decide +kernel
theorem dX4_readPerson_121 : decode cX4_readPerson 121 = .ok (.invokevirtual 137, 3) := by decide +kernel
theorem dX4_readPerson_124 : decode cX4_readPerson 124 = .ok (.pop, 1) := by decide +kernel
theorem dX4_readPerson_125 : decode cX4_readPerson 125 = .ok (.iconst 1, 1) := by decide +kernel
theorem dX4_readPerson_126 : decode cX4_readPerson 126 = .ok (.ireturn, 1) := by decide +kernel
theorem dX5_init_0 : decode cX5_init 0 = .ok (.aload_n 0, 1) := by decide +kernel
theorem dX5_init_1 : decode cX5_init 1 = .ok (.invokespecial 3, 3) := by decide +kernel
theorem dX5_init_4 : decode cX5_init 4 = .ok (.aload_n 0, 1) := by decide +kernel
theorem dX5_init_5 : decode cX5_init 5 = .ok (.bipush 8, 2) := by decide +kernel
theorem dX5_init_7 : decode cX5_init 7 = .ok (.newarray .int, 2) := by decide +kernel
theorem dX5_init_9 : decode cX5_init 9 = .ok (.putfield 9, 3) := by decide +kernel
theorem dX5_init_12 : decode cX5_init 12 = .ok (.return_, 1) := by decide +kernel
theorem dX5_go_0 : decode cX5_go 0 = .ok (.aload_n 1, 1) := by decide +kernel
theorem dX5_go_1 : decode cX5_go 1 = .ok (.aload_n 0, 1) := by decide +kernel
theorem dX5_go_2 : decode cX5_go 2 = .ok (.getfield 9, 3) := by decide +kernel
theorem dX5_go_5 : decode cX5_go 5 = .ok (.invokevirtual 15, 3) := by decide +kernel
theorem dX5_go_8 : decode cX5_go 8 = .ok (.iconst 0, 1) := by decide +kernel
theorem dX5_go_9 : decode cX5_go 9 = .ok (.istore_n 3, 1) := by decide +kernel
theorem dX5_go_10 : decode cX5_go 10 = .ok (.iload_n 3, 1) := by decide +kernel
theorem dX5_go_11 : decode cX5_go 11 = .ok (.iload_n 2, 1) := by decide +kernel
theorem dX5_go_12 : decode cX5_go 12 = .ok (.if_icmp .ge 39, 3) := by decide +kernel
theorem dX5_go_15 : decode cX5_go 15 = .ok (.aload_n 0, 1) := by decide +kernel
theorem dX5_go_16 : decode cX5_go 16 = .ok (.aload_n 1, 1) := by decide +kernel
theorem dX5_go_17 : decode cX5_go 17 = .ok (.invokevirtual 21, 3) := by decide +kernel
theorem dX5_go_20 : decode cX5_go 20 = .ok (.aload_n 0, 1) := by decide +kernel
theorem dX5_go_21 : decode cX5_go 21 = .ok (.aload_n 1, 1) := by decide +kernel
theorem dX5_go_22 : decode cX5_go 22 = .ok (.invokevirtual 25, 3) := by decide +kernel
theorem dX5_go_25 : decode cX5_go 25 = .ok (.aload_n 0, 1) := by decide +kernel
theorem dX5_go_26 : decode cX5_go 26 = .ok (.aload_n 1, 1) := by decide +kernel
theorem dX5_go_27 : decode cX5_go 27 = .ok (.invokevirtual 28, 3) := by decide +kernel
theorem dX5_go_30 : decode cX5_go 30 = .ok (.aload_n 0, 1) := by decide +kernel
theorem dX5_go_31 : decode cX5_go 31 = .ok (.aload_n 1, 1) := by decide +kernel
theorem dX5_go_32 : decode cX5_go 32 = .ok (.invokevirtual 31, 3) := by decide +kernel
theorem dX5_go_35 : decode cX5_go 35 = .ok (.aload_n 1, 1) := by decide +kernel
theorem dX5_go_36 : decode cX5_go 36 = .ok (.dup, 1) := by decide +kernel
theorem dX5_go_37 : decode cX5_go 37 = .ok (.getfield 34, 3) := by decide +kernel
theorem dX5_go_40 : decode cX5_go 40 = .ok (.iconst 1, 1) := by decide +kernel
theorem dX5_go_41 : decode cX5_go 41 = .ok (.iadd, 1) := by decide +kernel
theorem dX5_go_42 : decode cX5_go 42 = .ok (.putfield 34, 3) := by decide +kernel
theorem dX5_go_45 : decode cX5_go 45 = .ok (.iinc 3 1, 3) := by decide +kernel
theorem dX5_go_48 : decode cX5_go 48 = .ok (.goto (-38), 3) := by decide +kernel
theorem dX5_go_51 : decode cX5_go 51 = .ok (.return_, 1) := by decide +kernel
theorem dX5_bearersWork_0 : decode cX5_bearersWork 0 = .ok (.iconst 0, 1) := by decide +kernel
theorem dX5_bearersWork_1 : decode cX5_bearersWork 1 = .ok (.istore_n 2, 1) := by decide +kernel
theorem dX5_bearersWork_2 : decode cX5_bearersWork 2 = .ok (.iload_n 2, 1) := by decide +kernel
theorem dX5_bearersWork_3 : decode cX5_bearersWork 3 = .ok (.aload_n 1, 1) := by decide +kernel
theorem dX5_bearersWork_4 : decode cX5_bearersWork 4 = .ok (.getfield 38, 3) := by decide +kernel
theorem dX5_bearersWork_7 : decode cX5_bearersWork 7 = .ok (.if_icmp .ge 51, 3) := by decide +kernel
theorem dX5_bearersWork_10 : decode cX5_bearersWork 10 = .ok (.aload_n 1, 1) := by decide +kernel
theorem dX5_bearersWork_11 : decode cX5_bearersWork 11 = .ok (.getfield 41, 3) := by decide +kernel
theorem dX5_bearersWork_14 : decode cX5_bearersWork 14 = .ok (.iload_n 2, 1) := by decide +kernel
theorem dX5_bearersWork_15 : decode cX5_bearersWork 15 = .ok (.iaload, 1) := by decide +kernel
theorem dX5_bearersWork_16 : decode cX5_bearersWork 16 = .ok (.ifCond .lt 36, 3) := by decide +kernel
theorem dX5_bearersWork_19 : decode cX5_bearersWork 19 = .ok (.aload_n 1, 1) := by decide +kernel
theorem dX5_bearersWork_20 : decode cX5_bearersWork 20 = .ok (.getfield 44, 3) := by decide +kernel
theorem dX5_bearersWork_23 : decode cX5_bearersWork 23 = .ok (.iload_n 2, 1) := by decide +kernel
theorem dX5_bearersWork_24 : decode cX5_bearersWork 24 = .ok (.iaload, 1) := by decide +kernel
theorem dX5_bearersWork_25 : decode cX5_bearersWork 25 = .ok (.bipush 7, 2) := by decide +kernel
theorem dX5_bearersWork_27 : decode cX5_bearersWork 27 = .ok (.if_icmp .lt 25, 3) := by decide +kernel
theorem dX5_bearersWork_30 : decode cX5_bearersWork 30 = .ok (.aload_n 0, 1) := by decide +kernel
theorem dX5_bearersWork_31 : decode cX5_bearersWork 31 = .ok (.aload_n 1, 1) := by decide +kernel
theorem dX5_bearersWork_32 : decode cX5_bearersWork 32 = .ok (.aload_n 0, 1) := by decide +kernel
theorem dX5_bearersWork_33 : decode cX5_bearersWork 33 = .ok (.getfield 9, 3) := by decide +kernel
theorem dX5_bearersWork_36 : decode cX5_bearersWork 36 = .ok (.aload_n 1, 1) := by decide +kernel
theorem dX5_bearersWork_37 : decode cX5_bearersWork 37 = .ok (.getfield 41, 3) := by decide +kernel
theorem dX5_bearersWork_40 : decode cX5_bearersWork 40 = .ok (.iload_n 2, 1) := by decide +kernel
theorem dX5_bearersWork_41 : decode cX5_bearersWork 41 = .ok (.iaload, 1) := by decide +kernel
theorem dX5_bearersWork_42 : decode cX5_bearersWork 42 = .ok (.iaload, 1) := by decide +kernel
theorem dX5_bearersWork_43 : decode cX5_bearersWork 43 = .ok (.aload_n 1, 1) := by decide +kernel
theorem dX5_bearersWork_44 : decode cX5_bearersWork 44 = .ok (.getfield 47, 3) := by decide +kernel
theorem dX5_bearersWork_47 : decode cX5_bearersWork 47 = .ok (.iload_n 2, 1) := by decide +kernel
theorem dX5_bearersWork_48 : decode cX5_bearersWork 48 = .ok (.iaload, 1) := by decide +kernel
theorem dX5_bearersWork_49 : decode cX5_bearersWork 49 = .ok (.invokevirtual 50, 3) := by decide +kernel
theorem dX5_bearersWork_52 : decode cX5_bearersWork 52 = .ok (.iinc 2 1, 3) := by decide +kernel
theorem dX5_bearersWork_55 : decode cX5_bearersWork 55 = .ok (.goto (-53), 3) := by decide +kernel
theorem dX5_bearersWork_58 : decode cX5_bearersWork 58 = .ok (.return_, 1) := by decide +kernel
theorem dX5_helpersWork_0 : decode cX5_helpersWork 0 = .ok (.iconst 0, 1) := by decide +kernel
theorem dX5_helpersWork_1 : decode cX5_helpersWork 1 = .ok (.istore_n 2, 1) := by decide +kernel
theorem dX5_helpersWork_2 : decode cX5_helpersWork 2 = .ok (.iload_n 2, 1) := by decide +kernel
theorem dX5_helpersWork_3 : decode cX5_helpersWork 3 = .ok (.aload_n 1, 1) := by decide +kernel
theorem dX5_helpersWork_4 : decode cX5_helpersWork 4 = .ok (.getfield 38, 3) := by decide +kernel
theorem dX5_helpersWork_7 : decode cX5_helpersWork 7 = .ok (.if_icmp .ge 90, 3) := by decide +kernel
theorem dX5_helpersWork_10 : decode cX5_helpersWork 10 = .ok (.aload_n 1, 1) := by decide +kernel
theorem dX5_helpersWork_11 : decode cX5_helpersWork 11 = .ok (.getfield 54, 3) := by decide +kernel
theorem dX5_helpersWork_14 : decode cX5_helpersWork 14 = .ok (.iload_n 2, 1) := by decide +kernel
theorem dX5_helpersWork_15 : decode cX5_helpersWork 15 = .ok (.iaload, 1) := by decide +kernel
theorem dX5_helpersWork_16 : decode cX5_helpersWork 16 = .ok (.istore_n 3, 1) := by decide +kernel
theorem dX5_helpersWork_17 : decode cX5_helpersWork 17 = .ok (.iload_n 3, 1) := by decide +kernel
theorem dX5_helpersWork_18 : decode cX5_helpersWork 18 = .ok (.ifCond .lt 73, 3) := by decide +kernel
theorem dX5_helpersWork_21 : decode cX5_helpersWork 21 = .ok (.aload_n 1, 1) := by decide +kernel
theorem dX5_helpersWork_22 : decode cX5_helpersWork 22 = .ok (.getfield 44, 3) := by decide +kernel
theorem dX5_helpersWork_25 : decode cX5_helpersWork 25 = .ok (.iload_n 2, 1) := by decide +kernel
theorem dX5_helpersWork_26 : decode cX5_helpersWork 26 = .ok (.iaload, 1) := by decide +kernel
theorem dX5_helpersWork_27 : decode cX5_helpersWork 27 = .ok (.bipush 7, 2) := by decide +kernel
theorem dX5_helpersWork_29 : decode cX5_helpersWork 29 = .ok (.if_icmp .lt 62, 3) := by decide +kernel
theorem dX5_helpersWork_32 : decode cX5_helpersWork 32 = .ok (.aload_n 1, 1) := by decide +kernel
theorem dX5_helpersWork_33 : decode cX5_helpersWork 33 = .ok (.getfield 41, 3) := by decide +kernel
theorem dX5_helpersWork_36 : decode cX5_helpersWork 36 = .ok (.iload_n 3, 1) := by decide +kernel
theorem dX5_helpersWork_37 : decode cX5_helpersWork 37 = .ok (.iaload, 1) := by decide +kernel
theorem dX5_helpersWork_38 : decode cX5_helpersWork 38 = .ok (.ifCond .ge 6, 3) := by decide +kernel
theorem dX5_helpersWork_41 : decode cX5_helpersWork 41 = .ok (.goto 50, 3) := by decide +kernel
theorem dX5_helpersWork_44 : decode cX5_helpersWork 44 = .ok (.aload_n 1, 1) := by decide +kernel
theorem dX5_helpersWork_45 : decode cX5_helpersWork 45 = .ok (.getfield 41, 3) := by decide +kernel
theorem dX5_helpersWork_48 : decode cX5_helpersWork 48 = .ok (.iload_n 2, 1) := by decide +kernel
theorem dX5_helpersWork_49 : decode cX5_helpersWork 49 = .ok (.iaload, 1) := by decide +kernel
theorem dX5_helpersWork_50 : decode cX5_helpersWork 50 = .ok (.ifCond .lt 17, 3) := by decide +kernel
theorem dX5_helpersWork_53 : decode cX5_helpersWork 53 = .ok (.aload_n 0, 1) := by decide +kernel
theorem dX5_helpersWork_54 : decode cX5_helpersWork 54 = .ok (.getfield 9, 3) := by decide +kernel
theorem dX5_helpersWork_57 : decode cX5_helpersWork 57 = .ok (.aload_n 1, 1) := by decide +kernel
theorem dX5_helpersWork_58 : decode cX5_helpersWork 58 = .ok (.getfield 41, 3) := by decide +kernel
theorem dX5_helpersWork_61 : decode cX5_helpersWork 61 = .ok (.iload_n 2, 1) := by decide +kernel
theorem dX5_helpersWork_62 : decode cX5_helpersWork 62 = .ok (.iaload, 1) := by decide +kernel
theorem dX5_helpersWork_63 : decode cX5_helpersWork 63 = .ok (.iaload, 1) := by decide +kernel
theorem dX5_helpersWork_64 : decode cX5_helpersWork 64 = .ok (.ifCond .ge 27, 3) := by decide +kernel
theorem dX5_helpersWork_67 : decode cX5_helpersWork 67 = .ok (.aload_n 0, 1) := by decide +kernel
theorem dX5_helpersWork_68 : decode cX5_helpersWork 68 = .ok (.aload_n 1, 1) := by decide +kernel
theorem dX5_helpersWork_69 : decode cX5_helpersWork 69 = .ok (.aload_n 0, 1) := by decide +kernel
theorem dX5_helpersWork_70 : decode cX5_helpersWork 70 = .ok (.getfield 9, 3) := by decide +kernel
theorem dX5_helpersWork_73 : decode cX5_helpersWork 73 = .ok (.aload_n 1, 1) := by decide +kernel
theorem dX5_helpersWork_74 : decode cX5_helpersWork 74 = .ok (.getfield 41, 3) := by decide +kernel
theorem dX5_helpersWork_77 : decode cX5_helpersWork 77 = .ok (.iload_n 3, 1) := by decide +kernel
theorem dX5_helpersWork_78 : decode cX5_helpersWork 78 = .ok (.iaload, 1) := by decide +kernel
theorem dX5_helpersWork_79 : decode cX5_helpersWork 79 = .ok (.iaload, 1) := by decide +kernel
theorem dX5_helpersWork_80 : decode cX5_helpersWork 80 = .ok (.aload_n 1, 1) := by decide +kernel
theorem dX5_helpersWork_81 : decode cX5_helpersWork 81 = .ok (.getfield 47, 3) := by decide +kernel
theorem dX5_helpersWork_84 : decode cX5_helpersWork 84 = .ok (.iload_n 2, 1) := by decide +kernel
theorem dX5_helpersWork_85 : decode cX5_helpersWork 85 = .ok (.iaload, 1) := by decide +kernel
theorem dX5_helpersWork_86 : decode cX5_helpersWork 86 = .ok (.iconst 2, 1) := by decide +kernel
theorem dX5_helpersWork_87 : decode cX5_helpersWork 87 = .ok (.idiv, 1) := by decide +kernel
theorem dX5_helpersWork_88 : decode cX5_helpersWork 88 = .ok (.invokevirtual 50, 3) := by decide +kernel
theorem dX5_helpersWork_91 : decode cX5_helpersWork 91 = .ok (.iinc 2 1, 3) := by decide +kernel
theorem dX5_helpersWork_94 : decode cX5_helpersWork 94 = .ok (.goto (-92), 3) := by decide +kernel
theorem dX5_helpersWork_97 : decode cX5_helpersWork 97 = .ok (.return_, 1) := by decide +kernel
theorem dX5_workOn_0 : decode cX5_workOn 0 = .ok (.iload_n 2, 1) := by decide +kernel
theorem dX5_workOn_1 : decode cX5_workOn 1 = .ok (.ifCond .ge 4, 3) := by decide +kernel
theorem dX5_workOn_4 : decode cX5_workOn 4 = .ok (.return_, 1) := by decide +kernel
theorem dX5_workOn_5 : decode cX5_workOn 5 = .ok (.aload_n 1, 1) := by decide +kernel
theorem dX5_workOn_6 : decode cX5_workOn 6 = .ok (.getfield 57, 3) := by decide +kernel
theorem dX5_workOn_9 : decode cX5_workOn 9 = .ok (.iload_n 2, 1) := by decide +kernel
theorem dX5_workOn_10 : decode cX5_workOn 10 = .ok (.iconst 0, 1) := by decide +kernel
theorem dX5_workOn_11 : decode cX5_workOn 11 = .ok (.aload_n 1, 1) := by decide +kernel
theorem dX5_workOn_12 : decode cX5_workOn 12 = .ok (.getfield 57, 3) := by decide +kernel
theorem dX5_workOn_15 : decode cX5_workOn 15 = .ok (.iload_n 2, 1) := by decide +kernel
theorem dX5_workOn_16 : decode cX5_workOn 16 = .ok (.iaload, 1) := by decide +kernel
theorem dX5_workOn_17 : decode cX5_workOn 17 = .ok (.aload_n 1, 1) := by decide +kernel
theorem dX5_workOn_18 : decode cX5_workOn 18 = .ok (.iload_n 2, 1) := by decide +kernel
theorem dX5_workOn_19 : decode cX5_workOn 19 = .ok (.iload_n 3, 1) := by decide +kernel
theorem dX5_workOn_20 : decode cX5_workOn 20 = .ok (.invokevirtual 60, 3) := by decide +kernel
theorem dX5_workOn_23 : decode cX5_workOn 23 = .ok (.isub, 1) := by decide +kernel
theorem dX5_workOn_24 : decode cX5_workOn 24 = .ok (.invokestatic 64, 3) := by decide +kernel
theorem dX5_workOn_27 : decode cX5_workOn 27 = .ok (.iastore, 1) := by decide +kernel
theorem dX5_workOn_28 : decode cX5_workOn 28 = .ok (.aload_n 1, 1) := by decide +kernel
theorem dX5_workOn_29 : decode cX5_workOn 29 = .ok (.getfield 57, 3) := by decide +kernel
theorem dX5_workOn_32 : decode cX5_workOn 32 = .ok (.iload_n 2, 1) := by decide +kernel
theorem dX5_workOn_33 : decode cX5_workOn 33 = .ok (.iaload, 1) := by decide +kernel
theorem dX5_workOn_34 : decode cX5_workOn 34 = .ok (.ifCond .ne 11, 3) := by decide +kernel
theorem dX5_workOn_37 : decode cX5_workOn 37 = .ok (.aload_n 1, 1) := by decide +kernel
theorem dX5_workOn_38 : decode cX5_workOn 38 = .ok (.aload_n 0, 1) := by decide +kernel
theorem dX5_workOn_39 : decode cX5_workOn 39 = .ok (.getfield 9, 3) := by decide +kernel
theorem dX5_workOn_42 : decode cX5_workOn 42 = .ok (.invokevirtual 15, 3) := by decide +kernel
theorem dX5_workOn_45 : decode cX5_workOn 45 = .ok (.return_, 1) := by decide +kernel
theorem dX5_tasksGrow_0 : decode cX5_tasksGrow 0 = .ok (.iconst 0, 1) := by decide +kernel
theorem dX5_tasksGrow_1 : decode cX5_tasksGrow 1 = .ok (.istore_n 2, 1) := by decide +kernel
theorem dX5_tasksGrow_2 : decode cX5_tasksGrow 2 = .ok (.iload_n 2, 1) := by decide +kernel
theorem dX5_tasksGrow_3 : decode cX5_tasksGrow 3 = .ok (.aload_n 1, 1) := by decide +kernel
theorem dX5_tasksGrow_4 : decode cX5_tasksGrow 4 = .ok (.getfield 69, 3) := by decide +kernel
theorem dX5_tasksGrow_7 : decode cX5_tasksGrow 7 = .ok (.if_icmp .ge 51, 3) := by decide +kernel
theorem dX5_tasksGrow_10 : decode cX5_tasksGrow 10 = .ok (.aload_n 1, 1) := by decide +kernel
theorem dX5_tasksGrow_11 : decode cX5_tasksGrow 11 = .ok (.getfield 57, 3) := by decide +kernel
theorem dX5_tasksGrow_14 : decode cX5_tasksGrow 14 = .ok (.iload_n 2, 1) := by decide +kernel
theorem dX5_tasksGrow_15 : decode cX5_tasksGrow 15 = .ok (.iaload, 1) := by decide +kernel
theorem dX5_tasksGrow_16 : decode cX5_tasksGrow 16 = .ok (.ifCond .le 36, 3) := by decide +kernel
theorem dX5_tasksGrow_19 : decode cX5_tasksGrow 19 = .ok (.aload_n 1, 1) := by decide +kernel
theorem dX5_tasksGrow_20 : decode cX5_tasksGrow 20 = .ok (.getfield 72, 3) := by decide +kernel
theorem dX5_tasksGrow_23 : decode cX5_tasksGrow 23 = .ok (.iload_n 2, 1) := by decide +kernel
theorem dX5_tasksGrow_24 : decode cX5_tasksGrow 24 = .ok (.iaload, 1) := by decide +kernel
theorem dX5_tasksGrow_25 : decode cX5_tasksGrow 25 = .ok (.ifCond .eq 27, 3) := by decide +kernel
theorem dX5_tasksGrow_28 : decode cX5_tasksGrow 28 = .ok (.aload_n 1, 1) := by decide +kernel
theorem dX5_tasksGrow_29 : decode cX5_tasksGrow 29 = .ok (.getfield 57, 3) := by decide +kernel
theorem dX5_tasksGrow_32 : decode cX5_tasksGrow 32 = .ok (.iload_n 2, 1) := by decide +kernel
theorem dX5_tasksGrow_33 : decode cX5_tasksGrow 33 = .ok (.sipush 999, 3) := by decide +kernel
theorem dX5_tasksGrow_36 : decode cX5_tasksGrow 36 = .ok (.aload_n 1, 1) := by decide +kernel
theorem dX5_tasksGrow_37 : decode cX5_tasksGrow 37 = .ok (.getfield 57, 3) := by decide +kernel
theorem dX5_tasksGrow_40 : decode cX5_tasksGrow 40 = .ok (.iload_n 2, 1) := by decide +kernel
theorem dX5_tasksGrow_41 : decode cX5_tasksGrow 41 = .ok (.iaload, 1) := by decide +kernel
theorem dX5_tasksGrow_42 : decode cX5_tasksGrow 42 = .ok (.aload_n 1, 1) := by decide +kernel
theorem dX5_tasksGrow_43 : decode cX5_tasksGrow 43 = .ok (.iload_n 2, 1) := by decide +kernel
theorem dX5_tasksGrow_44 : decode cX5_tasksGrow 44 = .ok (.invokevirtual 75, 3) := by decide +kernel
theorem dX5_tasksGrow_47 : decode cX5_tasksGrow 47 = .ok (.iadd, 1) := by decide +kernel
theorem dX5_tasksGrow_48 : decode cX5_tasksGrow 48 = .ok (.invokestatic 79, 3) := by decide +kernel
theorem dX5_tasksGrow_51 : decode cX5_tasksGrow 51 = .ok (.iastore, 1) := by decide +kernel
theorem dX5_tasksGrow_52 : decode cX5_tasksGrow 52 = .ok (.iinc 2 1, 3) := by decide +kernel
theorem dX5_tasksGrow_55 : decode cX5_tasksGrow 55 = .ok (.goto (-53), 3) := by decide +kernel
theorem dX5_tasksGrow_58 : decode cX5_tasksGrow 58 = .ok (.return_, 1) := by decide +kernel
theorem dX5_personsAge_0 : decode cX5_personsAge 0 = .ok (.iconst 0, 1) := by decide +kernel
theorem dX5_personsAge_1 : decode cX5_personsAge 1 = .ok (.istore_n 2, 1) := by decide +kernel
theorem dX5_personsAge_2 : decode cX5_personsAge 2 = .ok (.iload_n 2, 1) := by decide +kernel
theorem dX5_personsAge_3 : decode cX5_personsAge 3 = .ok (.aload_n 1, 1) := by decide +kernel
theorem dX5_personsAge_4 : decode cX5_personsAge 4 = .ok (.getfield 38, 3) := by decide +kernel
theorem dX5_personsAge_7 : decode cX5_personsAge 7 = .ok (.if_icmp .ge 56, 3) := by decide +kernel
theorem dX5_personsAge_10 : decode cX5_personsAge 10 = .ok (.aload_n 1, 1) := by decide +kernel
theorem dX5_personsAge_11 : decode cX5_personsAge 11 = .ok (.getfield 44, 3) := by decide +kernel
theorem dX5_personsAge_14 : decode cX5_personsAge 14 = .ok (.iload_n 2, 1) := by decide +kernel
theorem dX5_personsAge_15 : decode cX5_personsAge 15 = .ok (.iaload, 1) := by decide +kernel
theorem dX5_personsAge_16 : decode cX5_personsAge 16 = .ok (.bipush 40, 2) := by decide +kernel
theorem dX5_personsAge_18 : decode cX5_personsAge 18 = .ok (.if_icmp .ge 13, 3) := by decide +kernel
theorem dX5_personsAge_21 : decode cX5_personsAge 21 = .ok (.aload_n 1, 1) := by decide +kernel
theorem dX5_personsAge_22 : decode cX5_personsAge 22 = .ok (.getfield 44, 3) := by decide +kernel
theorem dX5_personsAge_25 : decode cX5_personsAge 25 = .ok (.iload_n 2, 1) := by decide +kernel
theorem dX5_personsAge_26 : decode cX5_personsAge 26 = .ok (.dup2, 1) := by decide +kernel
theorem dX5_personsAge_27 : decode cX5_personsAge 27 = .ok (.iaload, 1) := by decide +kernel
theorem dX5_personsAge_28 : decode cX5_personsAge 28 = .ok (.iconst 1, 1) := by decide +kernel
theorem dX5_personsAge_29 : decode cX5_personsAge 29 = .ok (.iadd, 1) := by decide +kernel
theorem dX5_personsAge_30 : decode cX5_personsAge 30 = .ok (.iastore, 1) := by decide +kernel
theorem dX5_personsAge_31 : decode cX5_personsAge 31 = .ok (.aload_n 1, 1) := by decide +kernel
theorem dX5_personsAge_32 : decode cX5_personsAge 32 = .ok (.getfield 44, 3) := by decide +kernel
theorem dX5_personsAge_35 : decode cX5_personsAge 35 = .ok (.iload_n 2, 1) := by decide +kernel
theorem dX5_personsAge_36 : decode cX5_personsAge 36 = .ok (.iaload, 1) := by decide +kernel
theorem dX5_personsAge_37 : decode cX5_personsAge 37 = .ok (.bipush 40, 2) := by decide +kernel
theorem dX5_personsAge_39 : decode cX5_personsAge 39 = .ok (.if_icmp .lt 18, 3) := by decide +kernel
theorem dX5_personsAge_42 : decode cX5_personsAge 42 = .ok (.aload_n 1, 1) := by decide +kernel
theorem dX5_personsAge_43 : decode cX5_personsAge 43 = .ok (.getfield 41, 3) := by decide +kernel
theorem dX5_personsAge_46 : decode cX5_personsAge 46 = .ok (.iload_n 2, 1) := by decide +kernel
theorem dX5_personsAge_47 : decode cX5_personsAge 47 = .ok (.iaload, 1) := by decide +kernel
theorem dX5_personsAge_48 : decode cX5_personsAge 48 = .ok (.ifCond .lt 9, 3) := by decide +kernel
theorem dX5_personsAge_51 : decode cX5_personsAge 51 = .ok (.aload_n 0, 1) := by decide +kernel
theorem dX5_personsAge_52 : decode cX5_personsAge 52 = .ok (.aload_n 1, 1) := by decide +kernel
theorem dX5_personsAge_53 : decode cX5_personsAge 53 = .ok (.iload_n 2, 1) := by decide +kernel
theorem dX5_personsAge_54 : decode cX5_personsAge 54 = .ok (.invokevirtual 82, 3) := by decide +kernel
theorem dX5_personsAge_57 : decode cX5_personsAge 57 = .ok (.iinc 2 1, 3) := by decide +kernel
theorem dX5_personsAge_60 : decode cX5_personsAge 60 = .ok (.goto (-58), 3) := by decide +kernel
theorem dX5_personsAge_63 : decode cX5_personsAge 63 = .ok (.return_, 1) := by decide +kernel
theorem dX5_leave_0 : decode cX5_leave 0 = .ok (.aload_n 1, 1) := by decide +kernel
theorem dX5_leave_1 : decode cX5_leave 1 = .ok (.getfield 41, 3) := by decide +kernel
theorem dX5_leave_4 : decode cX5_leave 4 = .ok (.iload_n 2, 1) := by decide +kernel
theorem dX5_leave_5 : decode cX5_leave 5 = .ok (.iaload, 1) := by decide +kernel
theorem dX5_leave_6 : decode cX5_leave 6 = .ok (.istore_n 3, 1) := by decide +kernel
theorem dX5_leave_7 : decode cX5_leave 7 = .ok (.aload_n 1, 1) := by decide +kernel
theorem dX5_leave_8 : decode cX5_leave 8 = .ok (.getfield 41, 3) := by decide +kernel
theorem dX5_leave_11 : decode cX5_leave 11 = .ok (.iload_n 2, 1) := by decide +kernel
theorem dX5_leave_12 : decode cX5_leave 12 = .ok (.iconst (-1), 1) := by decide +kernel
theorem dX5_leave_13 : decode cX5_leave 13 = .ok (.iastore, 1) := by decide +kernel
theorem dX5_leave_14 : decode cX5_leave 14 = .ok (.aload_n 1, 1) := by decide +kernel
theorem dX5_leave_15 : decode cX5_leave 15 = .ok (.getfield 86, 3) := by decide +kernel
theorem dX5_leave_18 : decode cX5_leave 18 = .ok (.iload_n 3, 1) := by decide +kernel
theorem dX5_leave_19 : decode cX5_leave 19 = .ok (.dup2, 1) := by decide +kernel
theorem dX5_leave_20 : decode cX5_leave 20 = .ok (.iaload, 1) := by decide +kernel
theorem dX5_leave_21 : decode cX5_leave 21 = .ok (.iconst 1, 1) := by decide +kernel
theorem dX5_leave_22 : decode cX5_leave 22 = .ok (.iadd, 1) := by decide +kernel
theorem dX5_leave_23 : decode cX5_leave 23 = .ok (.iastore, 1) := by decide +kernel
theorem dX5_leave_24 : decode cX5_leave 24 = .ok (.aload_n 1, 1) := by decide +kernel
theorem dX5_leave_25 : decode cX5_leave 25 = .ok (.iload_n 3, 1) := by decide +kernel
theorem dX5_leave_26 : decode cX5_leave 26 = .ok (.invokevirtual 89, 3) := by decide +kernel
theorem dX5_leave_29 : decode cX5_leave 29 = .ok (.ifCond .eq 20, 3) := by decide +kernel
theorem dX5_leave_32 : decode cX5_leave 32 = .ok (.aload_n 1, 1) := by decide +kernel
theorem dX5_leave_33 : decode cX5_leave 33 = .ok (.iconst 0, 1) := by decide +kernel
theorem dX5_leave_34 : decode cX5_leave 34 = .ok (.iload_n 3, 1) := by decide +kernel
theorem dX5_leave_35 : decode cX5_leave 35 = .ok (.iconst 5, 1) := by decide +kernel
theorem dX5_leave_36 : decode cX5_leave 36 = .ok (.iconst (-1), 1) := by decide +kernel
theorem dX5_leave_37 : decode cX5_leave 37 = .ok (.invokevirtual 95, 3) := by decide +kernel
theorem dX5_leave_40 : decode cX5_leave 40 = .ok (.pop, 1) := by decide +kernel
theorem dX5_leave_41 : decode cX5_leave 41 = .ok (.aload_n 1, 1) := by decide +kernel
theorem dX5_leave_42 : decode cX5_leave 42 = .ok (.aload_n 0, 1) := by decide +kernel
theorem dX5_leave_43 : decode cX5_leave 43 = .ok (.getfield 9, 3) := by decide +kernel
theorem dX5_leave_46 : decode cX5_leave 46 = .ok (.invokevirtual 15, 3) := by decide +kernel
theorem dX5_leave_49 : decode cX5_leave 49 = .ok (.return_, 1) := by decide +kernel
theorem dX6_init_0 : decode cX6_init 0 = .ok (.aload_n 0, 1) := by decide +kernel
theorem dX6_init_1 : decode cX6_init 1 = .ok (.invokespecial 3, 3) := by decide +kernel
theorem dX6_init_4 : decode cX6_init 4 = .ok (.aload_n 0, 1) := by decide +kernel
theorem dX6_init_5 : decode cX6_init 5 = .ok (.new 9, 3) := by decide +kernel
theorem dX6_init_8 : decode cX6_init 8 = .ok (.dup, 1) := by decide +kernel
theorem dX6_init_9 : decode cX6_init 9 = .ok (.invokespecial 11, 3) := by decide +kernel
theorem dX6_init_12 : decode cX6_init 12 = .ok (.putfield 12, 3) := by decide +kernel
theorem dX6_init_15 : decode cX6_init 15 = .ok (.aload_n 0, 1) := by decide +kernel
theorem dX6_init_16 : decode cX6_init 16 = .ok (.new 9, 3) := by decide +kernel
theorem dX6_init_19 : decode cX6_init 19 = .ok (.dup, 1) := by decide +kernel
theorem dX6_init_20 : decode cX6_init 20 = .ok (.invokespecial 11, 3) := by decide +kernel
theorem dX6_init_23 : decode cX6_init 23 = .ok (.putfield 16, 3) := by decide +kernel
theorem dX6_init_26 : decode cX6_init 26 = .ok (.aload_n 0, 1) := by decide +kernel
theorem dX6_init_27 : decode cX6_init 27 = .ok (.new 9, 3) := by decide +kernel
theorem dX6_init_30 : decode cX6_init 30 = .ok (.dup, 1) := by decide +kernel
theorem dX6_init_31 : decode cX6_init 31 = .ok (.invokespecial 11, 3) := by decide +kernel
theorem dX6_init_34 : decode cX6_init 34 = .ok (.putfield 19, 3) := by decide +kernel
theorem dX6_init_37 : decode cX6_init 37 = .ok (.aload_n 0, 1) := by decide +kernel
theorem dX6_init_38 : decode cX6_init 38 = .ok (.new 22, 3) := by decide +kernel
theorem dX6_init_41 : decode cX6_init 41 = .ok (.dup, 1) := by decide +kernel
theorem dX6_init_42 : decode cX6_init 42 = .ok (.invokespecial 24, 3) := by decide +kernel
theorem dX6_init_45 : decode cX6_init 45 = .ok (.putfield 25, 3) := by decide +kernel
theorem dX6_init_48 : decode cX6_init 48 = .ok (.aload_n 0, 1) := by decide +kernel
theorem dX6_init_49 : decode cX6_init 49 = .ok (.new 29, 3) := by decide +kernel
theorem dX6_init_52 : decode cX6_init 52 = .ok (.dup, 1) := by decide +kernel
theorem dX6_init_53 : decode cX6_init 53 = .ok (.aload_n 0, 1) := by decide +kernel
theorem dX6_init_54 : decode cX6_init 54 = .ok (.getfield 19, 3) := by decide +kernel
theorem dX6_init_57 : decode cX6_init 57 = .ok (.aload_n 0, 1) := by decide +kernel
theorem dX6_init_58 : decode cX6_init 58 = .ok (.getfield 25, 3) := by decide +kernel
theorem dX6_init_61 : decode cX6_init 61 = .ok (.invokespecial 31, 3) := by decide +kernel
theorem dX6_init_64 : decode cX6_init 64 = .ok (.putfield 34, 3) := by decide +kernel
theorem dX6_init_67 : decode cX6_init 67 = .ok (.aload_n 0, 1) := by decide +kernel
theorem dX6_init_68 : decode cX6_init 68 = .ok (.new 38, 3) := by decide +kernel
theorem dX6_init_71 : decode cX6_init 71 = .ok (.dup, 1) := by decide +kernel
theorem dX6_init_72 : decode cX6_init 72 = .ok (.invokespecial 40, 3) := by decide +kernel
theorem dX6_init_75 : decode cX6_init 75 = .ok (.putfield 41, 3) := by decide +kernel
theorem dX6_init_78 : decode cX6_init 78 = .ok (.aload_n 0, 1) := by decide +kernel
theorem dX6_init_79 : decode cX6_init 79 = .ok (.iconst 4, 1) := by decide +kernel
theorem dX6_init_80 : decode cX6_init 80 = .ok (.anewarray 45, 3) := by decide +kernel
theorem dX6_init_83 : decode cX6_init 83 = .ok (.putfield 47, 3) := by decide +kernel
theorem dX6_init_86 : decode cX6_init 86 = .ok (.aload_n 0, 1) := by decide +kernel
theorem dX6_init_87 : decode cX6_init 87 = .ok (.bipush 7, 2) := by decide +kernel
theorem dX6_init_89 : decode cX6_init 89 = .ok (.newarray .int, 2) := by decide +kernel
theorem dX6_init_91 : decode cX6_init 91 = .ok (.putfield 51, 3) := by decide +kernel
theorem dX6_init_94 : decode cX6_init 94 = .ok (.iconst 0, 1) := by decide +kernel
theorem dX6_init_95 : decode cX6_init 95 = .ok (.istore_n 1, 1) := by decide +kernel
theorem dX6_init_96 : decode cX6_init 96 = .ok (.iload_n 1, 1) := by decide +kernel
theorem dX6_init_97 : decode cX6_init 97 = .ok (.iconst 4, 1) := by decide +kernel
theorem dX6_init_98 : decode cX6_init 98 = .ok (.if_icmp .ge 22, 3) := by decide +kernel
theorem dX6_init_101 : decode cX6_init 101 = .ok (.aload_n 0, 1) := by decide +kernel
theorem dX6_init_102 : decode cX6_init 102 = .ok (.getfield 47, 3) := by decide +kernel
theorem dX6_init_105 : decode cX6_init 105 = .ok (.iload_n 1, 1) := by decide +kernel
theorem dX6_init_106 : decode cX6_init 106 = .ok (.new 45, 3) := by decide +kernel
theorem dX6_init_109 : decode cX6_init 109 = .ok (.dup, 1) := by decide +kernel
theorem dX6_init_110 : decode cX6_init 110 = .ok (.invokespecial 55, 3) := by decide +kernel
theorem dX6_init_113 : decode cX6_init 113 = .ok (.aastore, 1) := by decide +kernel
theorem dX6_init_114 : decode cX6_init 114 = .ok (.iinc 1 1, 3) := by decide +kernel
theorem dX6_init_117 : decode cX6_init 117 = .ok (.goto (-21), 3) := by decide +kernel
theorem dX6_init_120 : decode cX6_init 120 = .ok (.return_, 1) := by decide +kernel
theorem dX6_worth_0 : decode cX6_worth 0 = .ok (.iload_n 1, 1) := by decide +kernel
theorem dX6_worth_1 : decode cX6_worth 1 = .ok (.invokestatic 56, 3) := by decide +kernel
theorem dX6_worth_4 : decode cX6_worth 4 = .ok (.ifCond .eq 13, 3) := by decide +kernel
theorem dX6_worth_7 : decode cX6_worth 7 = .ok (.iload_n 2, 1) := by decide +kernel
theorem dX6_worth_8 : decode cX6_worth 8 = .ok (.iconst 0, 1) := by decide +kernel
theorem dX6_worth_9 : decode cX6_worth 9 = .ok (.bipush 99, 2) := by decide +kernel
theorem dX6_worth_11 : decode cX6_worth 11 = .ok (.invokestatic 60, 3) := by decide +kernel
theorem dX6_worth_14 : decode cX6_worth 14 = .ok (.ifCond .ne 10, 3) := by decide +kernel
theorem dX6_worth_17 : decode cX6_worth 17 = .ok (.aload_n 0, 1) := by decide +kernel
theorem dX6_worth_18 : decode cX6_worth 18 = .ok (.ldc 64, 2) := by decide +kernel
theorem dX6_worth_20 : decode cX6_worth 20 = .ok (.invokevirtual 65, 3) := by decide +kernel
theorem dX6_worth_23 : decode cX6_worth 23 = .ok (.ireturn, 1) := by decide +kernel
theorem dX6_worth_24 : decode cX6_worth 24 = .ok (.aload_n 0, 1) := by decide +kernel
theorem dX6_worth_25 : decode cX6_worth 25 = .ok (.getfield 12, 3) := by decide +kernel
theorem dX6_worth_28 : decode cX6_worth 28 = .ok (.getfield 69, 3) := by decide +kernel
theorem dX6_worth_31 : decode cX6_worth 31 = .ok (.iload_n 1, 1) := by decide +kernel
theorem dX6_worth_32 : decode cX6_worth 32 = .ok (.iaload, 1) := by decide +kernel
theorem dX6_worth_33 : decode cX6_worth 33 = .ok (.istore_n 3, 1) := by decide +kernel
theorem dX6_worth_34 : decode cX6_worth 34 = .ok (.aload_n 0, 1) := by decide +kernel
theorem dX6_worth_35 : decode cX6_worth 35 = .ok (.getfield 12, 3) := by decide +kernel
theorem dX6_worth_38 : decode cX6_worth 38 = .ok (.getfield 69, 3) := by decide +kernel
theorem dX6_worth_41 : decode cX6_worth 41 = .ok (.iload_n 1, 1) := by decide +kernel
theorem dX6_worth_42 : decode cX6_worth 42 = .ok (.iload_n 2, 1) := by decide +kernel
theorem dX6_worth_43 : decode cX6_worth 43 = .ok (.iastore, 1) := by decide +kernel
theorem dX6_worth_44 : decode cX6_worth 44 = .ok (.iload_n 3, 1) := by decide +kernel
theorem dX6_worth_45 : decode cX6_worth 45 = .ok (.ireturn, 1) := by decide +kernel
theorem dX6_task_0 : decode cX6_task 0 = .ok (.iload_n 1, 1) := by decide +kernel
theorem dX6_task_1 : decode cX6_task 1 = .ok (.invokestatic 72, 3) := by decide +kernel
theorem dX6_task_4 : decode cX6_task 4 = .ok (.ifCond .eq 21, 3) := by decide +kernel
theorem dX6_task_7 : decode cX6_task 7 = .ok (.iload_n 2, 1) := by decide +kernel
theorem dX6_task_8 : decode cX6_task 8 = .ok (.invokestatic 56, 3) := by decide +kernel
theorem dX6_task_11 : decode cX6_task 11 = .ok (.ifCond .eq 14, 3) := by decide +kernel
theorem dX6_task_14 : decode cX6_task 14 = .ok (.iload_n 3, 1) := by decide +kernel
theorem dX6_task_15 : decode cX6_task 15 = .ok (.iconst 1, 1) := by decide +kernel
theorem dX6_task_16 : decode cX6_task 16 = .ok (.sipush 999, 3) := by decide +kernel
theorem dX6_task_19 : decode cX6_task 19 = .ok (.invokestatic 60, 3) := by decide +kernel
theorem dX6_task_22 : decode cX6_task 22 = .ok (.ifCond .ne 10, 3) := by decide +kernel
theorem dX6_task_25 : decode cX6_task 25 = .ok (.aload_n 0, 1) := by decide +kernel
theorem dX6_task_26 : decode cX6_task 26 = .ok (.ldc 64, 2) := by decide +kernel
theorem dX6_task_28 : decode cX6_task 28 = .ok (.invokevirtual 65, 3) := by decide +kernel
theorem dX6_task_31 : decode cX6_task 31 = .ok (.ireturn, 1) := by decide +kernel
theorem dX6_task_32 : decode cX6_task 32 = .ok (.aload_n 0, 1) := by decide +kernel
theorem dX6_task_33 : decode cX6_task 33 = .ok (.getfield 12, 3) := by decide +kernel
theorem dX6_task_36 : decode cX6_task 36 = .ok (.getfield 77, 3) := by decide +kernel
theorem dX6_task_39 : decode cX6_task 39 = .ok (.bipush 20, 2) := by decide +kernel
theorem dX6_task_41 : decode cX6_task 41 = .ok (.if_icmp .lt 12, 3) := by decide +kernel
theorem dX6_task_44 : decode cX6_task 44 = .ok (.aload_n 0, 1) := by decide +kernel
theorem dX6_task_45 : decode cX6_task 45 = .ok (.ldc 81, 2) := by decide +kernel
theorem dX6_task_47 : decode cX6_task 47 = .ok (.invokevirtual 65, 3) := by decide +kernel
theorem dX6_task_50 : decode cX6_task 50 = .ok (.goto 14, 3) := by decide +kernel
theorem dX6_task_53 : decode cX6_task 53 = .ok (.aload_n 0, 1) := by decide +kernel
theorem dX6_task_54 : decode cX6_task 54 = .ok (.getfield 12, 3) := by decide +kernel
theorem dX6_task_57 : decode cX6_task 57 = .ok (.iload_n 1, 1) := by decide +kernel
theorem dX6_task_58 : decode cX6_task 58 = .ok (.iload_n 2, 1) := by decide +kernel
theorem dX6_task_59 : decode cX6_task 59 = .ok (.iload_n 3, 1) := by decide +kernel
theorem dX6_task_60 : decode cX6_task 60 = .ok (.iconst (-1), 1) := by decide +kernel
theorem dX6_task_61 : decode cX6_task 61 = .ok (.invokevirtual 82, 3) := by decide +kernel
theorem dX6_task_64 : decode cX6_task 64 = .ok (.ireturn, 1) := by decide +kernel
theorem dX6_taskOf_0 : decode cX6_taskOf 0 = .ok (.aload_n 0, 1) := by decide +kernel
theorem dX6_taskOf_1 : decode cX6_taskOf 1 = .ok (.getfield 12, 3) := by decide +kernel
theorem dX6_taskOf_4 : decode cX6_taskOf 4 = .ok (.iload_n 1, 1) := by decide +kernel
theorem dX6_taskOf_5 : decode cX6_taskOf 5 = .ok (.invokevirtual 86, 3) := by decide +kernel
theorem dX6_taskOf_8 : decode cX6_taskOf 8 = .ok (.ifCond .ne 10, 3) := by decide +kernel
theorem dX6_taskOf_11 : decode cX6_taskOf 11 = .ok (.aload_n 0, 1) := by decide +kernel
theorem dX6_taskOf_12 : decode cX6_taskOf 12 = .ok (.ldc 64, 2) := by decide +kernel
theorem dX6_taskOf_14 : decode cX6_taskOf 14 = .ok (.invokevirtual 65, 3) := by decide +kernel
theorem dX6_taskOf_17 : decode cX6_taskOf 17 = .ok (.ireturn, 1) := by decide +kernel
theorem dX6_taskOf_18 : decode cX6_taskOf 18 = .ok (.iload_n 2, 1) := by decide +kernel
theorem dX6_taskOf_19 : decode cX6_taskOf 19 = .ok (.tableswitch 104 0 5 #[37, 47, 57, 67, 77, 86], 37) := by decide +kernel
theorem dX6_taskOf_56 : decode cX6_taskOf 56 = .ok (.aload_n 0, 1) := by decide +kernel
theorem dX6_taskOf_57 : decode cX6_taskOf 57 = .ok (.getfield 12, 3) := by decide +kernel
theorem dX6_taskOf_60 : decode cX6_taskOf 60 = .ok (.getfield 89, 3) := by decide +kernel
theorem dX6_taskOf_63 : decode cX6_taskOf 63 = .ok (.iload_n 1, 1) := by decide +kernel
theorem dX6_taskOf_64 : decode cX6_taskOf 64 = .ok (.iaload, 1) := by decide +kernel
theorem dX6_taskOf_65 : decode cX6_taskOf 65 = .ok (.ireturn, 1) := by decide +kernel
theorem dX6_taskOf_66 : decode cX6_taskOf 66 = .ok (.aload_n 0, 1) := by decide +kernel
theorem dX6_taskOf_67 : decode cX6_taskOf 67 = .ok (.getfield 12, 3) := by decide +kernel
theorem dX6_taskOf_70 : decode cX6_taskOf 70 = .ok (.getfield 92, 3) := by decide +kernel
theorem dX6_taskOf_73 : decode cX6_taskOf 73 = .ok (.iload_n 1, 1) := by decide +kernel
theorem dX6_taskOf_74 : decode cX6_taskOf 74 = .ok (.iaload, 1) := by decide +kernel
theorem dX6_taskOf_75 : decode cX6_taskOf 75 = .ok (.ireturn, 1) := by decide +kernel
theorem dX6_taskOf_76 : decode cX6_taskOf 76 = .ok (.aload_n 0, 1) := by decide +kernel
theorem dX6_taskOf_77 : decode cX6_taskOf 77 = .ok (.getfield 12, 3) := by decide +kernel
theorem dX6_taskOf_80 : decode cX6_taskOf 80 = .ok (.getfield 95, 3) := by decide +kernel
theorem dX6_taskOf_83 : decode cX6_taskOf 83 = .ok (.iload_n 1, 1) := by decide +kernel
theorem dX6_taskOf_84 : decode cX6_taskOf 84 = .ok (.iaload, 1) := by decide +kernel
theorem dX6_taskOf_85 : decode cX6_taskOf 85 = .ok (.ireturn, 1) := by decide +kernel
theorem dX6_taskOf_86 : decode cX6_taskOf 86 = .ok (.aload_n 0, 1) := by decide +kernel
theorem dX6_taskOf_87 : decode cX6_taskOf 87 = .ok (.getfield 12, 3) := by decide +kernel
theorem dX6_taskOf_90 : decode cX6_taskOf 90 = .ok (.getfield 98, 3) := by decide +kernel
theorem dX6_taskOf_93 : decode cX6_taskOf 93 = .ok (.iload_n 1, 1) := by decide +kernel
theorem dX6_taskOf_94 : decode cX6_taskOf 94 = .ok (.iaload, 1) := by decide +kernel
theorem dX6_taskOf_95 : decode cX6_taskOf 95 = .ok (.ireturn, 1) := by decide +kernel
theorem dX6_taskOf_96 : decode cX6_taskOf 96 = .ok (.aload_n 0, 1) := by decide +kernel
theorem dX6_taskOf_97 : decode cX6_taskOf 97 = .ok (.getfield 12, 3) := by decide +kernel
theorem dX6_taskOf_100 : decode cX6_taskOf 100 = .ok (.iload_n 1, 1) := by decide +kernel
theorem dX6_taskOf_101 : decode cX6_taskOf 101 = .ok (.invokevirtual 101, 3) := by decide +kernel
theorem dX6_taskOf_104 : decode cX6_taskOf 104 = .ok (.ireturn, 1) := by decide +kernel
theorem dX6_taskOf_105 : decode cX6_taskOf 105 = .ok (.aload_n 0, 1) := by decide +kernel
theorem dX6_taskOf_106 : decode cX6_taskOf 106 = .ok (.getfield 12, 3) := by decide +kernel
theorem dX6_taskOf_109 : decode cX6_taskOf 109 = .ok (.iload_n 1, 1) := by decide +kernel
theorem dX6_taskOf_110 : decode cX6_taskOf 110 = .ok (.iload_n 1, 1) := by decide +kernel
theorem dX6_taskOf_111 : decode cX6_taskOf 111 = .ok (.invokevirtual 104, 3) := by decide +kernel
theorem dX6_taskOf_114 : decode cX6_taskOf 114 = .ok (.ifCond .eq 7, 3) := by decide +kernel
theorem dX6_taskOf_117 : decode cX6_taskOf 117 = .ok (.iconst 1, 1) := by decide +kernel
theorem dX6_taskOf_118 : decode cX6_taskOf 118 = .ok (.goto 4, 3) := by decide +kernel
theorem dX6_taskOf_121 : decode cX6_taskOf 121 = .ok (.iconst 0, 1) := by decide +kernel
theorem dX6_taskOf_122 : decode cX6_taskOf 122 = .ok (.ireturn, 1) := by decide +kernel
theorem dX6_taskOf_123 : decode cX6_taskOf 123 = .ok (.aload_n 0, 1) := by decide +kernel
theorem dX6_taskOf_124 : decode cX6_taskOf 124 = .ok (.ldc 64, 2) := by decide +kernel
theorem dX6_taskOf_126 : decode cX6_taskOf 126 = .ok (.invokevirtual 65, 3) := by decide +kernel
theorem dX6_taskOf_129 : decode cX6_taskOf 129 = .ok (.ireturn, 1) := by decide +kernel
theorem dX6_turn_0 : decode cX6_turn 0 = .ok (.aload_n 0, 1) := by decide +kernel
theorem dX6_turn_1 : decode cX6_turn 1 = .ok (.getfield 12, 3) := by decide +kernel
theorem dX6_turn_4 : decode cX6_turn 4 = .ok (.iload_n 1, 1) := by decide +kernel
theorem dX6_turn_5 : decode cX6_turn 5 = .ok (.invokevirtual 86, 3) := by decide +kernel
theorem dX6_turn_8 : decode cX6_turn 8 = .ok (.ifCond .eq 10, 3) := by decide +kernel
theorem dX6_turn_11 : decode cX6_turn 11 = .ok (.iload_n 2, 1) := by decide +kernel
theorem dX6_turn_12 : decode cX6_turn 12 = .ok (.invokestatic 72, 3) := by decide +kernel
theorem dX6_turn_15 : decode cX6_turn 15 = .ok (.ifCond .ne 10, 3) := by decide +kernel
theorem dX6_turn_18 : decode cX6_turn 18 = .ok (.aload_n 0, 1) := by decide +kernel
theorem dX6_turn_19 : decode cX6_turn 19 = .ok (.ldc 64, 2) := by decide +kernel
theorem dX6_turn_21 : decode cX6_turn 21 = .ok (.invokevirtual 65, 3) := by decide +kernel
theorem dX6_turn_24 : decode cX6_turn 24 = .ok (.ireturn, 1) := by decide +kernel
theorem dX6_turn_25 : decode cX6_turn 25 = .ok (.aload_n 0, 1) := by decide +kernel
theorem dX6_turn_26 : decode cX6_turn 26 = .ok (.getfield 12, 3) := by decide +kernel
theorem dX6_turn_29 : decode cX6_turn 29 = .ok (.getfield 89, 3) := by decide +kernel
theorem dX6_turn_32 : decode cX6_turn 32 = .ok (.iload_n 1, 1) := by decide +kernel
theorem dX6_turn_33 : decode cX6_turn 33 = .ok (.iaload, 1) := by decide +kernel
theorem dX6_turn_34 : decode cX6_turn 34 = .ok (.istore_n 3, 1) := by decide +kernel
theorem dX6_turn_35 : decode cX6_turn 35 = .ok (.aload_n 0, 1) := by decide +kernel
theorem dX6_turn_36 : decode cX6_turn 36 = .ok (.getfield 12, 3) := by decide +kernel
theorem dX6_turn_39 : decode cX6_turn 39 = .ok (.getfield 89, 3) := by decide +kernel
theorem dX6_turn_42 : decode cX6_turn 42 = .ok (.iload_n 1, 1) := by decide +kernel
theorem dX6_turn_43 : decode cX6_turn 43 = .ok (.iload_n 2, 1) := by decide +kernel
theorem dX6_turn_44 : decode cX6_turn 44 = .ok (.iastore, 1) := by decide +kernel
theorem dX6_turn_45 : decode cX6_turn 45 = .ok (.iload_n 3, 1) := by decide +kernel
theorem dX6_turn_46 : decode cX6_turn 46 = .ok (.ireturn, 1) := by decide +kernel
theorem dX6_needs_0 : decode cX6_needs 0 = .ok (.aload_n 0, 1) := by decide +kernel
theorem dX6_needs_1 : decode cX6_needs 1 = .ok (.getfield 12, 3) := by decide +kernel
theorem dX6_needs_4 : decode cX6_needs 4 = .ok (.iload_n 1, 1) := by decide +kernel
theorem dX6_needs_5 : decode cX6_needs 5 = .ok (.invokevirtual 86, 3) := by decide +kernel
theorem dX6_needs_8 : decode cX6_needs 8 = .ok (.ifCond .eq 24, 3) := by decide +kernel
theorem dX6_needs_11 : decode cX6_needs 11 = .ok (.iload_n 2, 1) := by decide +kernel
theorem dX6_needs_12 : decode cX6_needs 12 = .ok (.iload_n 1, 1) := by decide +kernel
theorem dX6_needs_13 : decode cX6_needs 13 = .ok (.if_icmp .eq 19, 3) := by decide +kernel
theorem dX6_needs_16 : decode cX6_needs 16 = .ok (.iload_n 2, 1) := by decide +kernel
theorem dX6_needs_17 : decode cX6_needs 17 = .ok (.iconst (-1), 1) := by decide +kernel
theorem dX6_needs_18 : decode cX6_needs 18 = .ok (.if_icmp .eq 21, 3) := by decide +kernel
theorem dX6_needs_21 : decode cX6_needs 21 = .ok (.aload_n 0, 1) := by decide +kernel
theorem dX6_needs_22 : decode cX6_needs 22 = .ok (.getfield 12, 3) := by decide +kernel
theorem dX6_needs_25 : decode cX6_needs 25 = .ok (.iload_n 2, 1) := by decide +kernel
theorem dX6_needs_26 : decode cX6_needs 26 = .ok (.invokevirtual 86, 3) := by decide +kernel
theorem dX6_needs_29 : decode cX6_needs 29 = .ok (.ifCond .ne 10, 3) := by decide +kernel
theorem dX6_needs_32 : decode cX6_needs 32 = .ok (.aload_n 0, 1) := by decide +kernel
theorem dX6_needs_33 : decode cX6_needs 33 = .ok (.ldc 64, 2) := by decide +kernel
theorem dX6_needs_35 : decode cX6_needs 35 = .ok (.invokevirtual 65, 3) := by decide +kernel
theorem dX6_needs_38 : decode cX6_needs 38 = .ok (.ireturn, 1) := by decide +kernel
theorem dX6_needs_39 : decode cX6_needs 39 = .ok (.aload_n 0, 1) := by decide +kernel
theorem dX6_needs_40 : decode cX6_needs 40 = .ok (.getfield 12, 3) := by decide +kernel
theorem dX6_needs_43 : decode cX6_needs 43 = .ok (.getfield 98, 3) := by decide +kernel
theorem dX6_needs_46 : decode cX6_needs 46 = .ok (.iload_n 1, 1) := by decide +kernel
theorem dX6_needs_47 : decode cX6_needs 47 = .ok (.iaload, 1) := by decide +kernel
theorem dX6_needs_48 : decode cX6_needs 48 = .ok (.istore_n 3, 1) := by decide +kernel
theorem dX6_needs_49 : decode cX6_needs 49 = .ok (.aload_n 0, 1) := by decide +kernel
theorem dX6_needs_50 : decode cX6_needs 50 = .ok (.getfield 12, 3) := by decide +kernel
theorem dX6_needs_53 : decode cX6_needs 53 = .ok (.getfield 98, 3) := by decide +kernel
theorem dX6_needs_56 : decode cX6_needs 56 = .ok (.iload_n 1, 1) := by decide +kernel
theorem dX6_needs_57 : decode cX6_needs 57 = .ok (.iload_n 2, 1) := by decide +kernel
theorem dX6_needs_58 : decode cX6_needs 58 = .ok (.iastore, 1) := by decide +kernel
theorem dX6_needs_59 : decode cX6_needs 59 = .ok (.iload_n 3, 1) := by decide +kernel
theorem dX6_needs_60 : decode cX6_needs 60 = .ok (.ireturn, 1) := by decide +kernel
theorem dX6_strike_0 : decode cX6_strike 0 = .ok (.aload_n 0, 1) := by decide +kernel
theorem dX6_strike_1 : decode cX6_strike 1 = .ok (.getfield 12, 3) := by decide +kernel
theorem dX6_strike_4 : decode cX6_strike 4 = .ok (.iload_n 1, 1) := by decide +kernel
theorem dX6_strike_5 : decode cX6_strike 5 = .ok (.invokevirtual 86, 3) := by decide +kernel
theorem dX6_strike_8 : decode cX6_strike 8 = .ok (.ifCond .ne 10, 3) := by decide +kernel
theorem dX6_strike_11 : decode cX6_strike 11 = .ok (.aload_n 0, 1) := by decide +kernel
theorem dX6_strike_12 : decode cX6_strike 12 = .ok (.ldc 64, 2) := by decide +kernel
theorem dX6_strike_14 : decode cX6_strike 14 = .ok (.invokevirtual 65, 3) := by decide +kernel
theorem dX6_strike_17 : decode cX6_strike 17 = .ok (.ireturn, 1) := by decide +kernel
theorem dX6_strike_18 : decode cX6_strike 18 = .ok (.aload_n 0, 1) := by decide +kernel
theorem dX6_strike_19 : decode cX6_strike 19 = .ok (.getfield 12, 3) := by decide +kernel
theorem dX6_strike_22 : decode cX6_strike 22 = .ok (.getfield 95, 3) := by decide +kernel
theorem dX6_strike_25 : decode cX6_strike 25 = .ok (.iload_n 1, 1) := by decide +kernel
theorem dX6_strike_26 : decode cX6_strike 26 = .ok (.iaload, 1) := by decide +kernel
theorem dX6_strike_27 : decode cX6_strike 27 = .ok (.istore_n 2, 1) := by decide +kernel
theorem dX6_strike_28 : decode cX6_strike 28 = .ok (.aload_n 0, 1) := by decide +kernel
theorem dX6_strike_29 : decode cX6_strike 29 = .ok (.getfield 12, 3) := by decide +kernel
theorem dX6_strike_32 : decode cX6_strike 32 = .ok (.getfield 95, 3) := by decide +kernel
theorem dX6_strike_35 : decode cX6_strike 35 = .ok (.iload_n 1, 1) := by decide +kernel
theorem dX6_strike_36 : decode cX6_strike 36 = .ok (.iconst 0, 1) := by decide +kernel
theorem dX6_strike_37 : decode cX6_strike 37 = .ok (.iastore, 1) := by decide +kernel
theorem dX6_strike_38 : decode cX6_strike 38 = .ok (.iload_n 2, 1) := by decide +kernel
theorem dX6_strike_39 : decode cX6_strike 39 = .ok (.ireturn, 1) := by decide +kernel
theorem dX6_nameOf_0 : decode cX6_nameOf 0 = .ok (.iload_n 1, 1) := by decide +kernel
theorem dX6_nameOf_1 : decode cX6_nameOf 1 = .ok (.invokestatic 56, 3) := by decide +kernel
theorem dX6_nameOf_4 : decode cX6_nameOf 4 = .ok (.ifCond .ne 10, 3) := by decide +kernel
theorem dX6_nameOf_7 : decode cX6_nameOf 7 = .ok (.aload_n 0, 1) := by decide +kernel
theorem dX6_nameOf_8 : decode cX6_nameOf 8 = .ok (.ldc 64, 2) := by decide +kernel
theorem dX6_nameOf_10 : decode cX6_nameOf 10 = .ok (.invokevirtual 65, 3) := by decide +kernel
theorem dX6_nameOf_13 : decode cX6_nameOf 13 = .ok (.ireturn, 1) := by decide +kernel
theorem dX6_nameOf_14 : decode cX6_nameOf 14 = .ok (.iload_n 2, 1) := by decide +kernel
theorem dX6_nameOf_15 : decode cX6_nameOf 15 = .ok (.tableswitch 114 0 6 #[41, 51, 68, 77, 86, 95, 104], 41) := by decide +kernel
theorem dX6_nameOf_56 : decode cX6_nameOf 56 = .ok (.aload_n 0, 1) := by decide +kernel
theorem dX6_nameOf_57 : decode cX6_nameOf 57 = .ok (.getfield 12, 3) := by decide +kernel
theorem dX6_nameOf_60 : decode cX6_nameOf 60 = .ok (.getfield 69, 3) := by decide +kernel
theorem dX6_nameOf_63 : decode cX6_nameOf 63 = .ok (.iload_n 1, 1) := by decide +kernel
theorem dX6_nameOf_64 : decode cX6_nameOf 64 = .ok (.iaload, 1) := by decide +kernel
theorem dX6_nameOf_65 : decode cX6_nameOf 65 = .ok (.ireturn, 1) := by decide +kernel
theorem dX6_nameOf_66 : decode cX6_nameOf 66 = .ok (.aload_n 0, 1) := by decide +kernel
theorem dX6_nameOf_67 : decode cX6_nameOf 67 = .ok (.getfield 12, 3) := by decide +kernel
theorem dX6_nameOf_70 : decode cX6_nameOf 70 = .ok (.iload_n 1, 1) := by decide +kernel
theorem dX6_nameOf_71 : decode cX6_nameOf 71 = .ok (.invokevirtual 108, 3) := by decide +kernel
theorem dX6_nameOf_74 : decode cX6_nameOf 74 = .ok (.ifCond .eq 7, 3) := by decide +kernel
theorem dX6_nameOf_77 : decode cX6_nameOf 77 = .ok (.iconst 1, 1) := by decide +kernel
theorem dX6_nameOf_78 : decode cX6_nameOf 78 = .ok (.goto 4, 3) := by decide +kernel
theorem dX6_nameOf_81 : decode cX6_nameOf 81 = .ok (.iconst 0, 1) := by decide +kernel
theorem dX6_nameOf_82 : decode cX6_nameOf 82 = .ok (.ireturn, 1) := by decide +kernel
theorem dX6_nameOf_83 : decode cX6_nameOf 83 = .ok (.aload_n 0, 1) := by decide +kernel
theorem dX6_nameOf_84 : decode cX6_nameOf 84 = .ok (.getfield 12, 3) := by decide +kernel
theorem dX6_nameOf_87 : decode cX6_nameOf 87 = .ok (.iload_n 1, 1) := by decide +kernel
theorem dX6_nameOf_88 : decode cX6_nameOf 88 = .ok (.invokevirtual 111, 3) := by decide +kernel
theorem dX6_nameOf_91 : decode cX6_nameOf 91 = .ok (.ireturn, 1) := by decide +kernel
theorem dX6_nameOf_92 : decode cX6_nameOf 92 = .ok (.aload_n 0, 1) := by decide +kernel
theorem dX6_nameOf_93 : decode cX6_nameOf 93 = .ok (.getfield 12, 3) := by decide +kernel
theorem dX6_nameOf_96 : decode cX6_nameOf 96 = .ok (.iload_n 1, 1) := by decide +kernel
theorem dX6_nameOf_97 : decode cX6_nameOf 97 = .ok (.invokevirtual 114, 3) := by decide +kernel
theorem dX6_nameOf_100 : decode cX6_nameOf 100 = .ok (.ireturn, 1) := by decide +kernel
theorem dX6_nameOf_101 : decode cX6_nameOf 101 = .ok (.aload_n 0, 1) := by decide +kernel
theorem dX6_nameOf_102 : decode cX6_nameOf 102 = .ok (.getfield 12, 3) := by decide +kernel
theorem dX6_nameOf_105 : decode cX6_nameOf 105 = .ok (.iload_n 1, 1) := by decide +kernel
theorem dX6_nameOf_106 : decode cX6_nameOf 106 = .ok (.invokevirtual 117, 3) := by decide +kernel
theorem dX6_nameOf_109 : decode cX6_nameOf 109 = .ok (.ireturn, 1) := by decide +kernel
theorem dX6_nameOf_110 : decode cX6_nameOf 110 = .ok (.aload_n 0, 1) := by decide +kernel
theorem dX6_nameOf_111 : decode cX6_nameOf 111 = .ok (.getfield 12, 3) := by decide +kernel
theorem dX6_nameOf_114 : decode cX6_nameOf 114 = .ok (.iload_n 1, 1) := by decide +kernel
theorem dX6_nameOf_115 : decode cX6_nameOf 115 = .ok (.invokevirtual 120, 3) := by decide +kernel
theorem dX6_nameOf_118 : decode cX6_nameOf 118 = .ok (.ireturn, 1) := by decide +kernel
theorem dX6_nameOf_119 : decode cX6_nameOf 119 = .ok (.aload_n 0, 1) := by decide +kernel
theorem dX6_nameOf_120 : decode cX6_nameOf 120 = .ok (.getfield 12, 3) := by decide +kernel
theorem dX6_nameOf_123 : decode cX6_nameOf 123 = .ok (.getfield 123, 3) := by decide +kernel
theorem dX6_nameOf_126 : decode cX6_nameOf 126 = .ok (.iload_n 1, 1) := by decide +kernel
theorem dX6_nameOf_127 : decode cX6_nameOf 127 = .ok (.iaload, 1) := by decide +kernel
theorem dX6_nameOf_128 : decode cX6_nameOf 128 = .ok (.ireturn, 1) := by decide +kernel
theorem dX6_nameOf_129 : decode cX6_nameOf 129 = .ok (.aload_n 0, 1) := by decide +kernel
theorem dX6_nameOf_130 : decode cX6_nameOf 130 = .ok (.ldc 64, 2) := by decide +kernel
theorem dX6_nameOf_132 : decode cX6_nameOf 132 = .ok (.invokevirtual 65, 3) := by decide +kernel
theorem dX6_nameOf_135 : decode cX6_nameOf 135 = .ok (.ireturn, 1) := by decide +kernel
theorem dX6_rings_0 : decode cX6_rings 0 = .ok (.iconst 0, 1) := by decide +kernel
theorem dX6_rings_1 : decode cX6_rings 1 = .ok (.istore_n 1, 1) := by decide +kernel
theorem dX6_rings_2 : decode cX6_rings 2 = .ok (.iconst 0, 1) := by decide +kernel
theorem dX6_rings_3 : decode cX6_rings 3 = .ok (.istore_n 2, 1) := by decide +kernel
theorem dX6_rings_4 : decode cX6_rings 4 = .ok (.iload_n 2, 1) := by decide +kernel
theorem dX6_rings_5 : decode cX6_rings 5 = .ok (.aload_n 0, 1) := by decide +kernel
theorem dX6_rings_6 : decode cX6_rings 6 = .ok (.getfield 12, 3) := by decide +kernel
theorem dX6_rings_9 : decode cX6_rings 9 = .ok (.getfield 77, 3) := by decide +kernel
theorem dX6_rings_12 : decode cX6_rings 12 = .ok (.if_icmp .ge 27, 3) := by decide +kernel
theorem dX6_rings_15 : decode cX6_rings 15 = .ok (.aload_n 0, 1) := by decide +kernel
theorem dX6_rings_16 : decode cX6_rings 16 = .ok (.getfield 12, 3) := by decide +kernel
theorem dX6_rings_19 : decode cX6_rings 19 = .ok (.iload_n 2, 1) := by decide +kernel
theorem dX6_rings_20 : decode cX6_rings 20 = .ok (.iload_n 2, 1) := by decide +kernel
theorem dX6_rings_21 : decode cX6_rings 21 = .ok (.invokevirtual 104, 3) := by decide +kernel
theorem dX6_rings_24 : decode cX6_rings 24 = .ok (.ifCond .eq 9, 3) := by decide +kernel
theorem dX6_rings_27 : decode cX6_rings 27 = .ok (.iload_n 1, 1) := by decide +kernel
theorem dX6_rings_28 : decode cX6_rings 28 = .ok (.iconst 1, 1) := by decide +kernel
theorem dX6_rings_29 : decode cX6_rings 29 = .ok (.iload_n 2, 1) := by decide +kernel
theorem dX6_rings_30 : decode cX6_rings 30 = .ok (.ishl, 1) := by decide +kernel
theorem dX6_rings_31 : decode cX6_rings 31 = .ok (.ior, 1) := by decide +kernel
theorem dX6_rings_32 : decode cX6_rings 32 = .ok (.istore_n 1, 1) := by decide +kernel
theorem dX6_rings_33 : decode cX6_rings 33 = .ok (.iinc 2 1, 3) := by decide +kernel
theorem dX6_rings_36 : decode cX6_rings 36 = .ok (.goto (-32), 3) := by decide +kernel
theorem dX6_rings_39 : decode cX6_rings 39 = .ok (.iload_n 1, 1) := by decide +kernel
theorem dX6_rings_40 : decode cX6_rings 40 = .ok (.ireturn, 1) := by decide +kernel
theorem dX6_waits_0 : decode cX6_waits 0 = .ok (.aload_n 0, 1) := by decide +kernel
theorem dX6_waits_1 : decode cX6_waits 1 = .ok (.getfield 12, 3) := by decide +kernel
theorem dX6_waits_4 : decode cX6_waits 4 = .ok (.iload_n 1, 1) := by decide +kernel
theorem dX6_waits_5 : decode cX6_waits 5 = .ok (.invokevirtual 86, 3) := by decide +kernel
theorem dX6_waits_8 : decode cX6_waits 8 = .ok (.ifCond .ne 10, 3) := by decide +kernel
theorem dX6_waits_11 : decode cX6_waits 11 = .ok (.aload_n 0, 1) := by decide +kernel
theorem dX6_waits_12 : decode cX6_waits 12 = .ok (.ldc 64, 2) := by decide +kernel
theorem dX6_waits_14 : decode cX6_waits 14 = .ok (.invokevirtual 65, 3) := by decide +kernel
theorem dX6_waits_17 : decode cX6_waits 17 = .ok (.ireturn, 1) := by decide +kernel
theorem dX6_waits_18 : decode cX6_waits 18 = .ok (.iconst 0, 1) := by decide +kernel
theorem dX6_waits_19 : decode cX6_waits 19 = .ok (.istore_n 2, 1) := by decide +kernel
theorem dX6_waits_20 : decode cX6_waits 20 = .ok (.iconst 0, 1) := by decide +kernel
theorem dX6_waits_21 : decode cX6_waits 21 = .ok (.istore_n 3, 1) := by decide +kernel
theorem dX6_waits_22 : decode cX6_waits 22 = .ok (.iload_n 3, 1) := by decide +kernel
theorem dX6_waits_23 : decode cX6_waits 23 = .ok (.aload_n 0, 1) := by decide +kernel
theorem dX6_waits_24 : decode cX6_waits 24 = .ok (.getfield 12, 3) := by decide +kernel
theorem dX6_waits_27 : decode cX6_waits 27 = .ok (.getfield 77, 3) := by decide +kernel
theorem dX6_waits_30 : decode cX6_waits 30 = .ok (.if_icmp .ge 27, 3) := by decide +kernel
theorem dX6_waits_33 : decode cX6_waits 33 = .ok (.aload_n 0, 1) := by decide +kernel
theorem dX6_waits_34 : decode cX6_waits 34 = .ok (.getfield 12, 3) := by decide +kernel
theorem dX6_waits_37 : decode cX6_waits 37 = .ok (.iload_n 3, 1) := by decide +kernel
theorem dX6_waits_38 : decode cX6_waits 38 = .ok (.iload_n 1, 1) := by decide +kernel
theorem dX6_waits_39 : decode cX6_waits 39 = .ok (.invokevirtual 104, 3) := by decide +kernel
theorem dX6_waits_42 : decode cX6_waits 42 = .ok (.ifCond .eq 9, 3) := by decide +kernel
theorem dX6_waits_45 : decode cX6_waits 45 = .ok (.iload_n 2, 1) := by decide +kernel
theorem dX6_waits_46 : decode cX6_waits 46 = .ok (.iconst 1, 1) := by decide +kernel
theorem dX6_waits_47 : decode cX6_waits 47 = .ok (.iload_n 3, 1) := by decide +kernel
theorem dX6_waits_48 : decode cX6_waits 48 = .ok (.ishl, 1) := by decide +kernel
theorem dX6_waits_49 : decode cX6_waits 49 = .ok (.ior, 1) := by decide +kernel
theorem dX6_waits_50 : decode cX6_waits 50 = .ok (.istore_n 2, 1) := by decide +kernel
theorem dX6_waits_51 : decode cX6_waits 51 = .ok (.iinc 3 1, 3) := by decide +kernel
theorem dX6_waits_54 : decode cX6_waits 54 = .ok (.goto (-32), 3) := by decide +kernel
theorem dX6_waits_57 : decode cX6_waits 57 = .ok (.iload_n 2, 1) := by decide +kernel
theorem dX6_waits_58 : decode cX6_waits 58 = .ok (.ireturn, 1) := by decide +kernel
theorem dX6_person_0 : decode cX6_person 0 = .ok (.iload_n 1, 1) := by decide +kernel
theorem dX6_person_1 : decode cX6_person 1 = .ok (.iconst 1, 1) := by decide +kernel
theorem dX6_person_2 : decode cX6_person 2 = .ok (.bipush 9, 2) := by decide +kernel
theorem dX6_person_4 : decode cX6_person 4 = .ok (.invokestatic 60, 3) := by decide +kernel
theorem dX6_person_7 : decode cX6_person 7 = .ok (.ifCond .ne 10, 3) := by decide +kernel
theorem dX6_person_10 : decode cX6_person 10 = .ok (.aload_n 0, 1) := by decide +kernel
theorem dX6_person_11 : decode cX6_person 11 = .ok (.ldc 64, 2) := by decide +kernel
theorem dX6_person_13 : decode cX6_person 13 = .ok (.invokevirtual 65, 3) := by decide +kernel
theorem dX6_person_16 : decode cX6_person 16 = .ok (.ireturn, 1) := by decide +kernel
theorem dX6_person_17 : decode cX6_person 17 = .ok (.aload_n 0, 1) := by decide +kernel
theorem dX6_person_18 : decode cX6_person 18 = .ok (.getfield 12, 3) := by decide +kernel
theorem dX6_person_21 : decode cX6_person 21 = .ok (.getfield 126, 3) := by decide +kernel
theorem dX6_person_24 : decode cX6_person 24 = .ok (.bipush 8, 2) := by decide +kernel
theorem dX6_person_26 : decode cX6_person 26 = .ok (.if_icmp .lt 12, 3) := by decide +kernel
theorem dX6_person_29 : decode cX6_person 29 = .ok (.aload_n 0, 1) := by decide +kernel
theorem dX6_person_30 : decode cX6_person 30 = .ok (.ldc 81, 2) := by decide +kernel
theorem dX6_person_32 : decode cX6_person 32 = .ok (.invokevirtual 65, 3) := by decide +kernel
theorem dX6_person_35 : decode cX6_person 35 = .ok (.goto 13, 3) := by decide +kernel
theorem dX6_person_38 : decode cX6_person 38 = .ok (.aload_n 0, 1) := by decide +kernel
theorem dX6_person_39 : decode cX6_person 39 = .ok (.getfield 12, 3) := by decide +kernel
theorem dX6_person_42 : decode cX6_person 42 = .ok (.iload_n 1, 1) := by decide +kernel
theorem dX6_person_43 : decode cX6_person 43 = .ok (.iconst 0, 1) := by decide +kernel
theorem dX6_person_44 : decode cX6_person 44 = .ok (.iconst (-1), 1) := by decide +kernel
theorem dX6_person_45 : decode cX6_person 45 = .ok (.invokevirtual 129, 3) := by decide +kernel
theorem dX6_person_48 : decode cX6_person 48 = .ok (.ireturn, 1) := by decide +kernel
theorem dX6_of_0 : decode cX6_of 0 = .ok (.aload_n 0, 1) := by decide +kernel
theorem dX6_of_1 : decode cX6_of 1 = .ok (.getfield 12, 3) := by decide +kernel
theorem dX6_of_4 : decode cX6_of 4 = .ok (.iload_n 1, 1) := by decide +kernel
theorem dX6_of_5 : decode cX6_of 5 = .ok (.invokevirtual 133, 3) := by decide +kernel
theorem dX6_of_8 : decode cX6_of 8 = .ok (.ifCond .ne 10, 3) := by decide +kernel
theorem dX6_of_11 : decode cX6_of 11 = .ok (.aload_n 0, 1) := by decide +kernel
theorem dX6_of_12 : decode cX6_of 12 = .ok (.ldc 64, 2) := by decide +kernel
theorem dX6_of_14 : decode cX6_of 14 = .ok (.invokevirtual 65, 3) := by decide +kernel
theorem dX6_of_17 : decode cX6_of 17 = .ok (.ireturn, 1) := by decide +kernel
theorem dX6_of_18 : decode cX6_of 18 = .ok (.iload_n 2, 1) := by decide +kernel
theorem dX6_of_19 : decode cX6_of 19 = .ok (.tableswitch 69 0 3 #[29, 39, 49, 59], 29) := by decide +kernel
theorem dX6_of_48 : decode cX6_of 48 = .ok (.aload_n 0, 1) := by decide +kernel
theorem dX6_of_49 : decode cX6_of 49 = .ok (.getfield 12, 3) := by decide +kernel
theorem dX6_of_52 : decode cX6_of 52 = .ok (.getfield 136, 3) := by decide +kernel
theorem dX6_of_55 : decode cX6_of 55 = .ok (.iload_n 1, 1) := by decide +kernel
theorem dX6_of_56 : decode cX6_of 56 = .ok (.iaload, 1) := by decide +kernel
theorem dX6_of_57 : decode cX6_of 57 = .ok (.ireturn, 1) := by decide +kernel
theorem dX6_of_58 : decode cX6_of 58 = .ok (.aload_n 0, 1) := by decide +kernel
theorem dX6_of_59 : decode cX6_of 59 = .ok (.getfield 12, 3) := by decide +kernel
theorem dX6_of_62 : decode cX6_of 62 = .ok (.getfield 139, 3) := by decide +kernel
theorem dX6_of_65 : decode cX6_of 65 = .ok (.iload_n 1, 1) := by decide +kernel
theorem dX6_of_66 : decode cX6_of 66 = .ok (.iaload, 1) := by decide +kernel
theorem dX6_of_67 : decode cX6_of 67 = .ok (.ireturn, 1) := by decide +kernel
theorem dX6_of_68 : decode cX6_of 68 = .ok (.aload_n 0, 1) := by decide +kernel
theorem dX6_of_69 : decode cX6_of 69 = .ok (.getfield 12, 3) := by decide +kernel
theorem dX6_of_72 : decode cX6_of 72 = .ok (.getfield 142, 3) := by decide +kernel
theorem dX6_of_75 : decode cX6_of 75 = .ok (.iload_n 1, 1) := by decide +kernel
theorem dX6_of_76 : decode cX6_of 76 = .ok (.iaload, 1) := by decide +kernel
theorem dX6_of_77 : decode cX6_of 77 = .ok (.ireturn, 1) := by decide +kernel
theorem dX6_of_78 : decode cX6_of 78 = .ok (.aload_n 0, 1) := by decide +kernel
theorem dX6_of_79 : decode cX6_of 79 = .ok (.getfield 12, 3) := by decide +kernel
theorem dX6_of_82 : decode cX6_of 82 = .ok (.getfield 145, 3) := by decide +kernel
theorem dX6_of_85 : decode cX6_of 85 = .ok (.iload_n 1, 1) := by decide +kernel
theorem dX6_of_86 : decode cX6_of 86 = .ok (.iaload, 1) := by decide +kernel
theorem dX6_of_87 : decode cX6_of 87 = .ok (.ireturn, 1) := by decide +kernel
theorem dX6_of_88 : decode cX6_of 88 = .ok (.aload_n 0, 1) := by decide +kernel
theorem dX6_of_89 : decode cX6_of 89 = .ok (.ldc 64, 2) := by decide +kernel
theorem dX6_of_91 : decode cX6_of 91 = .ok (.invokevirtual 65, 3) := by decide +kernel
theorem dX6_of_94 : decode cX6_of 94 = .ok (.ireturn, 1) := by decide +kernel
theorem dX6_change_0 : decode cX6_change 0 = .ok (.aload_n 0, 1) := by decide +kernel
theorem dX6_change_1 : decode cX6_change 1 = .ok (.getfield 12, 3) := by decide +kernel
theorem dX6_change_4 : decode cX6_change 4 = .ok (.iload_n 1, 1) := by decide +kernel
theorem dX6_change_5 : decode cX6_change 5 = .ok (.invokevirtual 133, 3) := by decide +kernel
theorem dX6_change_8 : decode cX6_change 8 = .ok (.ifCond .ne 10, 3) := by decide +kernel
theorem dX6_change_11 : decode cX6_change 11 = .ok (.aload_n 0, 1) := by decide +kernel
theorem dX6_change_12 : decode cX6_change 12 = .ok (.ldc 64, 2) := by decide +kernel
theorem dX6_change_14 : decode cX6_change 14 = .ok (.invokevirtual 65, 3) := by decide +kernel
theorem dX6_change_17 : decode cX6_change 17 = .ok (.ireturn, 1) := by decide +kernel
theorem dX6_change_18 : decode cX6_change 18 = .ok (.iload_n 2, 1) := by decide +kernel
theorem dX6_change_19 : decode cX6_change 19 = .ok (.iconst 2, 1) := by decide +kernel
theorem dX6_change_20 : decode cX6_change 20 = .ok (.if_icmp .ne 37, 3) := by decide +kernel
theorem dX6_change_23 : decode cX6_change 23 = .ok (.iload_n 3, 1) := by decide +kernel
theorem dX6_change_24 : decode cX6_change 24 = .ok (.iconst 1, 1) := by decide +kernel
theorem dX6_change_25 : decode cX6_change 25 = .ok (.bipush 9, 2) := by decide +kernel
theorem dX6_change_27 : decode cX6_change 27 = .ok (.invokestatic 60, 3) := by decide +kernel
theorem dX6_change_30 : decode cX6_change 30 = .ok (.ifCond .eq 27, 3) := by decide +kernel
theorem dX6_change_33 : decode cX6_change 33 = .ok (.aload_n 0, 1) := by decide +kernel
theorem dX6_change_34 : decode cX6_change 34 = .ok (.getfield 12, 3) := by decide +kernel
theorem dX6_change_37 : decode cX6_change 37 = .ok (.getfield 142, 3) := by decide +kernel
theorem dX6_change_40 : decode cX6_change 40 = .ok (.iload_n 1, 1) := by decide +kernel
theorem dX6_change_41 : decode cX6_change 41 = .ok (.iaload, 1) := by decide +kernel
theorem dX6_change_42 : decode cX6_change 42 = .ok (.istore 4, 2) := by decide +kernel
theorem dX6_change_44 : decode cX6_change 44 = .ok (.aload_n 0, 1) := by decide +kernel
theorem dX6_change_45 : decode cX6_change 45 = .ok (.getfield 12, 3) := by decide +kernel
theorem dX6_change_48 : decode cX6_change 48 = .ok (.getfield 142, 3) := by decide +kernel
theorem dX6_change_51 : decode cX6_change 51 = .ok (.iload_n 1, 1) := by decide +kernel
theorem dX6_change_52 : decode cX6_change 52 = .ok (.iload_n 3, 1) := by decide +kernel
theorem dX6_change_53 : decode cX6_change 53 = .ok (.iastore, 1) := by decide +kernel
theorem dX6_change_54 : decode cX6_change 54 = .ok (.iload 4, 2) := by decide +kernel
theorem dX6_change_56 : decode cX6_change 56 = .ok (.ireturn, 1) := by decide +kernel
theorem dX6_change_57 : decode cX6_change 57 = .ok (.iload_n 2, 1) := by decide +kernel
theorem dX6_change_58 : decode cX6_change 58 = .ok (.iconst 1, 1) := by decide +kernel
theorem dX6_change_59 : decode cX6_change 59 = .ok (.if_icmp .ne 37, 3) := by decide +kernel
theorem dX6_change_62 : decode cX6_change 62 = .ok (.iload_n 3, 1) := by decide +kernel
theorem dX6_change_63 : decode cX6_change 63 = .ok (.iconst 0, 1) := by decide +kernel
theorem dX6_change_64 : decode cX6_change 64 = .ok (.bipush 39, 2) := by decide +kernel
theorem dX6_change_66 : decode cX6_change 66 = .ok (.invokestatic 60, 3) := by decide +kernel
theorem dX6_change_69 : decode cX6_change 69 = .ok (.ifCond .eq 27, 3) := by decide +kernel
theorem dX6_change_72 : decode cX6_change 72 = .ok (.aload_n 0, 1) := by decide +kernel
theorem dX6_change_73 : decode cX6_change 73 = .ok (.getfield 12, 3) := by decide +kernel
theorem dX6_change_76 : decode cX6_change 76 = .ok (.getfield 139, 3) := by decide +kernel
theorem dX6_change_79 : decode cX6_change 79 = .ok (.iload_n 1, 1) := by decide +kernel
theorem dX6_change_80 : decode cX6_change 80 = .ok (.iaload, 1) := by decide +kernel
theorem dX6_change_81 : decode cX6_change 81 = .ok (.istore 4, 2) := by decide +kernel
theorem dX6_change_83 : decode cX6_change 83 = .ok (.aload_n 0, 1) := by decide +kernel
theorem dX6_change_84 : decode cX6_change 84 = .ok (.getfield 12, 3) := by decide +kernel
theorem dX6_change_87 : decode cX6_change 87 = .ok (.getfield 139, 3) := by decide +kernel
theorem dX6_change_90 : decode cX6_change 90 = .ok (.iload_n 1, 1) := by decide +kernel
theorem dX6_change_91 : decode cX6_change 91 = .ok (.iload_n 3, 1) := by decide +kernel
theorem dX6_change_92 : decode cX6_change 92 = .ok (.iastore, 1) := by decide +kernel
theorem dX6_change_93 : decode cX6_change 93 = .ok (.iload 4, 2) := by decide +kernel
theorem dX6_change_95 : decode cX6_change 95 = .ok (.ireturn, 1) := by decide +kernel
theorem dX6_change_96 : decode cX6_change 96 = .ok (.aload_n 0, 1) := by decide +kernel
theorem dX6_change_97 : decode cX6_change 97 = .ok (.ldc 64, 2) := by decide +kernel
theorem dX6_change_99 : decode cX6_change 99 = .ok (.invokevirtual 65, 3) := by decide +kernel
theorem dX6_change_102 : decode cX6_change 102 = .ok (.ireturn, 1) := by decide +kernel
theorem dX6_helps_0 : decode cX6_helps 0 = .ok (.aload_n 0, 1) := by decide +kernel
theorem dX6_helps_1 : decode cX6_helps 1 = .ok (.getfield 12, 3) := by decide +kernel
theorem dX6_helps_4 : decode cX6_helps 4 = .ok (.iload_n 1, 1) := by decide +kernel
theorem dX6_helps_5 : decode cX6_helps 5 = .ok (.invokevirtual 133, 3) := by decide +kernel
theorem dX6_helps_8 : decode cX6_helps 8 = .ok (.ifCond .eq 24, 3) := by decide +kernel
theorem dX6_helps_11 : decode cX6_helps 11 = .ok (.iload_n 2, 1) := by decide +kernel
theorem dX6_helps_12 : decode cX6_helps 12 = .ok (.iload_n 1, 1) := by decide +kernel
theorem dX6_helps_13 : decode cX6_helps 13 = .ok (.if_icmp .eq 19, 3) := by decide +kernel
theorem dX6_helps_16 : decode cX6_helps 16 = .ok (.iload_n 2, 1) := by decide +kernel
theorem dX6_helps_17 : decode cX6_helps 17 = .ok (.iconst (-1), 1) := by decide +kernel
theorem dX6_helps_18 : decode cX6_helps 18 = .ok (.if_icmp .eq 21, 3) := by decide +kernel
theorem dX6_helps_21 : decode cX6_helps 21 = .ok (.aload_n 0, 1) := by decide +kernel
theorem dX6_helps_22 : decode cX6_helps 22 = .ok (.getfield 12, 3) := by decide +kernel
theorem dX6_helps_25 : decode cX6_helps 25 = .ok (.iload_n 2, 1) := by decide +kernel
theorem dX6_helps_26 : decode cX6_helps 26 = .ok (.invokevirtual 133, 3) := by decide +kernel
theorem dX6_helps_29 : decode cX6_helps 29 = .ok (.ifCond .ne 10, 3) := by decide +kernel
theorem dX6_helps_32 : decode cX6_helps 32 = .ok (.aload_n 0, 1) := by decide +kernel
theorem dX6_helps_33 : decode cX6_helps 33 = .ok (.ldc 64, 2) := by decide +kernel
theorem dX6_helps_35 : decode cX6_helps 35 = .ok (.invokevirtual 65, 3) := by decide +kernel
theorem dX6_helps_38 : decode cX6_helps 38 = .ok (.ireturn, 1) := by decide +kernel
theorem dX6_helps_39 : decode cX6_helps 39 = .ok (.aload_n 0, 1) := by decide +kernel
theorem dX6_helps_40 : decode cX6_helps 40 = .ok (.getfield 12, 3) := by decide +kernel
theorem dX6_helps_43 : decode cX6_helps 43 = .ok (.getfield 145, 3) := by decide +kernel
theorem dX6_helps_46 : decode cX6_helps 46 = .ok (.iload_n 1, 1) := by decide +kernel
theorem dX6_helps_47 : decode cX6_helps 47 = .ok (.iaload, 1) := by decide +kernel
theorem dX6_helps_48 : decode cX6_helps 48 = .ok (.istore_n 3, 1) := by decide +kernel
theorem dX6_helps_49 : decode cX6_helps 49 = .ok (.aload_n 0, 1) := by decide +kernel
theorem dX6_helps_50 : decode cX6_helps 50 = .ok (.getfield 12, 3) := by decide +kernel
theorem dX6_helps_53 : decode cX6_helps 53 = .ok (.getfield 145, 3) := by decide +kernel
theorem dX6_helps_56 : decode cX6_helps 56 = .ok (.iload_n 1, 1) := by decide +kernel
theorem dX6_helps_57 : decode cX6_helps 57 = .ok (.iload_n 2, 1) := by decide +kernel
theorem dX6_helps_58 : decode cX6_helps 58 = .ok (.iastore, 1) := by decide +kernel
theorem dX6_helps_59 : decode cX6_helps 59 = .ok (.iload_n 3, 1) := by decide +kernel
theorem dX6_helps_60 : decode cX6_helps 60 = .ok (.ireturn, 1) := by decide +kernel
theorem dX6_take_0 : decode cX6_take 0 = .ok (.aload_n 0, 1) := by decide +kernel
theorem dX6_take_1 : decode cX6_take 1 = .ok (.getfield 12, 3) := by decide +kernel
theorem dX6_take_4 : decode cX6_take 4 = .ok (.iload_n 1, 1) := by decide +kernel
theorem dX6_take_5 : decode cX6_take 5 = .ok (.invokevirtual 133, 3) := by decide +kernel
theorem dX6_take_8 : decode cX6_take 8 = .ok (.ifCond .eq 15, 3) := by decide +kernel
theorem dX6_take_11 : decode cX6_take 11 = .ok (.iload_n 2, 1) := by decide +kernel
theorem dX6_take_12 : decode cX6_take 12 = .ok (.iconst (-1), 1) := by decide +kernel
theorem dX6_take_13 : decode cX6_take 13 = .ok (.if_icmp .eq 17, 3) := by decide +kernel
theorem dX6_take_16 : decode cX6_take 16 = .ok (.iload_n 2, 1) := by decide +kernel
theorem dX6_take_17 : decode cX6_take 17 = .ok (.invokestatic 56, 3) := by decide +kernel
theorem dX6_take_20 : decode cX6_take 20 = .ok (.ifCond .ne 10, 3) := by decide +kernel
theorem dX6_take_23 : decode cX6_take 23 = .ok (.aload_n 0, 1) := by decide +kernel
theorem dX6_take_24 : decode cX6_take 24 = .ok (.ldc 64, 2) := by decide +kernel
theorem dX6_take_26 : decode cX6_take 26 = .ok (.invokevirtual 65, 3) := by decide +kernel
theorem dX6_take_29 : decode cX6_take 29 = .ok (.ireturn, 1) := by decide +kernel
theorem dX6_take_30 : decode cX6_take 30 = .ok (.aload_n 0, 1) := by decide +kernel
theorem dX6_take_31 : decode cX6_take 31 = .ok (.getfield 12, 3) := by decide +kernel
theorem dX6_take_34 : decode cX6_take 34 = .ok (.iload_n 1, 1) := by decide +kernel
theorem dX6_take_35 : decode cX6_take 35 = .ok (.iload_n 2, 1) := by decide +kernel
theorem dX6_take_36 : decode cX6_take 36 = .ok (.invokevirtual 148, 3) := by decide +kernel
theorem dX6_take_39 : decode cX6_take 39 = .ok (.ifCond .ne 10, 3) := by decide +kernel
theorem dX6_take_42 : decode cX6_take 42 = .ok (.aload_n 0, 1) := by decide +kernel
theorem dX6_take_43 : decode cX6_take 43 = .ok (.ldc 151, 2) := by decide +kernel
theorem dX6_take_45 : decode cX6_take 45 = .ok (.invokevirtual 65, 3) := by decide +kernel
theorem dX6_take_48 : decode cX6_take 48 = .ok (.ireturn, 1) := by decide +kernel
theorem dX6_take_49 : decode cX6_take 49 = .ok (.aload_n 0, 1) := by decide +kernel
theorem dX6_take_50 : decode cX6_take 50 = .ok (.getfield 12, 3) := by decide +kernel
theorem dX6_take_53 : decode cX6_take 53 = .ok (.getfield 136, 3) := by decide +kernel
theorem dX6_take_56 : decode cX6_take 56 = .ok (.iload_n 1, 1) := by decide +kernel
theorem dX6_take_57 : decode cX6_take 57 = .ok (.iaload, 1) := by decide +kernel
theorem dX6_take_58 : decode cX6_take 58 = .ok (.istore_n 3, 1) := by decide +kernel
theorem dX6_take_59 : decode cX6_take 59 = .ok (.aload_n 0, 1) := by decide +kernel
theorem dX6_take_60 : decode cX6_take 60 = .ok (.getfield 12, 3) := by decide +kernel
theorem dX6_take_63 : decode cX6_take 63 = .ok (.getfield 136, 3) := by decide +kernel
theorem dX6_take_66 : decode cX6_take 66 = .ok (.iload_n 1, 1) := by decide +kernel
theorem dX6_take_67 : decode cX6_take 67 = .ok (.iload_n 2, 1) := by decide +kernel
theorem dX6_take_68 : decode cX6_take 68 = .ok (.iastore, 1) := by decide +kernel
theorem dX6_take_69 : decode cX6_take 69 = .ok (.iload_n 3, 1) := by decide +kernel
theorem dX6_take_70 : decode cX6_take 70 = .ok (.ireturn, 1) := by decide +kernel
theorem dX6_exchange_0 : decode cX6_exchange 0 = .ok (.aload_n 0, 1) := by decide +kernel
theorem dX6_exchange_1 : decode cX6_exchange 1 = .ok (.getfield 12, 3) := by decide +kernel
theorem dX6_exchange_4 : decode cX6_exchange 4 = .ok (.iload_n 1, 1) := by decide +kernel
theorem dX6_exchange_5 : decode cX6_exchange 5 = .ok (.invokevirtual 133, 3) := by decide +kernel
theorem dX6_exchange_8 : decode cX6_exchange 8 = .ok (.ifCond .eq 19, 3) := by decide +kernel
theorem dX6_exchange_11 : decode cX6_exchange 11 = .ok (.aload_n 0, 1) := by decide +kernel
theorem dX6_exchange_12 : decode cX6_exchange 12 = .ok (.getfield 12, 3) := by decide +kernel
theorem dX6_exchange_15 : decode cX6_exchange 15 = .ok (.iload_n 2, 1) := by decide +kernel
theorem dX6_exchange_16 : decode cX6_exchange 16 = .ok (.invokevirtual 133, 3) := by decide +kernel
theorem dX6_exchange_19 : decode cX6_exchange 19 = .ok (.ifCond .eq 8, 3) := by decide +kernel
theorem dX6_exchange_22 : decode cX6_exchange 22 = .ok (.iload_n 1, 1) := by decide +kernel
theorem dX6_exchange_23 : decode cX6_exchange 23 = .ok (.iload_n 2, 1) := by decide +kernel
theorem dX6_exchange_24 : decode cX6_exchange 24 = .ok (.if_icmp .ne 10, 3) := by decide +kernel
theorem dX6_exchange_27 : decode cX6_exchange 27 = .ok (.aload_n 0, 1) := by decide +kernel
theorem dX6_exchange_28 : decode cX6_exchange 28 = .ok (.ldc 64, 2) := by decide +kernel
theorem dX6_exchange_30 : decode cX6_exchange 30 = .ok (.invokevirtual 65, 3) := by decide +kernel
theorem dX6_exchange_33 : decode cX6_exchange 33 = .ok (.ireturn, 1) := by decide +kernel
theorem dX6_exchange_34 : decode cX6_exchange 34 = .ok (.aload_n 0, 1) := by decide +kernel
theorem dX6_exchange_35 : decode cX6_exchange 35 = .ok (.getfield 12, 3) := by decide +kernel
theorem dX6_exchange_38 : decode cX6_exchange 38 = .ok (.getfield 139, 3) := by decide +kernel
theorem dX6_exchange_41 : decode cX6_exchange 41 = .ok (.iload_n 1, 1) := by decide +kernel
theorem dX6_exchange_42 : decode cX6_exchange 42 = .ok (.iaload, 1) := by decide +kernel
theorem dX6_exchange_43 : decode cX6_exchange 43 = .ok (.bipush 40, 2) := by decide +kernel
theorem dX6_exchange_45 : decode cX6_exchange 45 = .ok (.if_icmp .ge 17, 3) := by decide +kernel
theorem dX6_exchange_48 : decode cX6_exchange 48 = .ok (.aload_n 0, 1) := by decide +kernel
theorem dX6_exchange_49 : decode cX6_exchange 49 = .ok (.getfield 12, 3) := by decide +kernel
theorem dX6_exchange_52 : decode cX6_exchange 52 = .ok (.getfield 139, 3) := by decide +kernel
theorem dX6_exchange_55 : decode cX6_exchange 55 = .ok (.iload_n 2, 1) := by decide +kernel
theorem dX6_exchange_56 : decode cX6_exchange 56 = .ok (.iaload, 1) := by decide +kernel
theorem dX6_exchange_57 : decode cX6_exchange 57 = .ok (.bipush 40, 2) := by decide +kernel
theorem dX6_exchange_59 : decode cX6_exchange 59 = .ok (.if_icmp .lt 10, 3) := by decide +kernel
theorem dX6_exchange_62 : decode cX6_exchange 62 = .ok (.aload_n 0, 1) := by decide +kernel
theorem dX6_exchange_63 : decode cX6_exchange 63 = .ok (.ldc 151, 2) := by decide +kernel
theorem dX6_exchange_65 : decode cX6_exchange 65 = .ok (.invokevirtual 65, 3) := by decide +kernel
theorem dX6_exchange_68 : decode cX6_exchange 68 = .ok (.ireturn, 1) := by decide +kernel
theorem dX6_exchange_69 : decode cX6_exchange 69 = .ok (.aload_n 0, 1) := by decide +kernel
theorem dX6_exchange_70 : decode cX6_exchange 70 = .ok (.getfield 12, 3) := by decide +kernel
theorem dX6_exchange_73 : decode cX6_exchange 73 = .ok (.getfield 136, 3) := by decide +kernel
theorem dX6_exchange_76 : decode cX6_exchange 76 = .ok (.iload_n 1, 1) := by decide +kernel
theorem dX6_exchange_77 : decode cX6_exchange 77 = .ok (.iaload, 1) := by decide +kernel
theorem dX6_exchange_78 : decode cX6_exchange 78 = .ok (.istore_n 3, 1) := by decide +kernel
theorem dX6_exchange_79 : decode cX6_exchange 79 = .ok (.aload_n 0, 1) := by decide +kernel
theorem dX6_exchange_80 : decode cX6_exchange 80 = .ok (.getfield 12, 3) := by decide +kernel
theorem dX6_exchange_83 : decode cX6_exchange 83 = .ok (.getfield 136, 3) := by decide +kernel
theorem dX6_exchange_86 : decode cX6_exchange 86 = .ok (.iload_n 1, 1) := by decide +kernel
theorem dX6_exchange_87 : decode cX6_exchange 87 = .ok (.aload_n 0, 1) := by decide +kernel
theorem dX6_exchange_88 : decode cX6_exchange 88 = .ok (.getfield 12, 3) := by decide +kernel
theorem dX6_exchange_91 : decode cX6_exchange 91 = .ok (.getfield 136, 3) := by decide +kernel
theorem dX6_exchange_94 : decode cX6_exchange 94 = .ok (.iload_n 2, 1) := by decide +kernel
theorem dX6_exchange_95 : decode cX6_exchange 95 = .ok (.iaload, 1) := by decide +kernel
theorem dX6_exchange_96 : decode cX6_exchange 96 = .ok (.iastore, 1) := by decide +kernel
theorem dX6_exchange_97 : decode cX6_exchange 97 = .ok (.aload_n 0, 1) := by decide +kernel
theorem dX6_exchange_98 : decode cX6_exchange 98 = .ok (.getfield 12, 3) := by decide +kernel
theorem dX6_exchange_101 : decode cX6_exchange 101 = .ok (.getfield 136, 3) := by decide +kernel
theorem dX6_exchange_104 : decode cX6_exchange 104 = .ok (.iload_n 2, 1) := by decide +kernel
theorem dX6_exchange_105 : decode cX6_exchange 105 = .ok (.iload_n 3, 1) := by decide +kernel
theorem dX6_exchange_106 : decode cX6_exchange 106 = .ok (.iastore, 1) := by decide +kernel
theorem dX6_exchange_107 : decode cX6_exchange 107 = .ok (.iconst 1, 1) := by decide +kernel
theorem dX6_exchange_108 : decode cX6_exchange 108 = .ok (.ireturn, 1) := by decide +kernel
theorem dX6_born_0 : decode cX6_born 0 = .ok (.iload_n 1, 1) := by decide +kernel
theorem dX6_born_1 : decode cX6_born 1 = .ok (.iconst 1, 1) := by decide +kernel
theorem dX6_born_2 : decode cX6_born 2 = .ok (.bipush 8, 2) := by decide +kernel
theorem dX6_born_4 : decode cX6_born 4 = .ok (.invokestatic 60, 3) := by decide +kernel
theorem dX6_born_7 : decode cX6_born 7 = .ok (.ifCond .ne 10, 3) := by decide +kernel
theorem dX6_born_10 : decode cX6_born 10 = .ok (.aload_n 0, 1) := by decide +kernel
theorem dX6_born_11 : decode cX6_born 11 = .ok (.ldc 64, 2) := by decide +kernel
theorem dX6_born_13 : decode cX6_born 13 = .ok (.invokevirtual 65, 3) := by decide +kernel
theorem dX6_born_16 : decode cX6_born 16 = .ok (.ireturn, 1) := by decide +kernel
theorem dX6_born_17 : decode cX6_born 17 = .ok (.iconst 0, 1) := by decide +kernel
theorem dX6_born_18 : decode cX6_born 18 = .ok (.istore_n 2, 1) := by decide +kernel
theorem dX6_born_19 : decode cX6_born 19 = .ok (.iload_n 2, 1) := by decide +kernel
theorem dX6_born_20 : decode cX6_born 20 = .ok (.iload_n 1, 1) := by decide +kernel
theorem dX6_born_21 : decode cX6_born 21 = .ok (.if_icmp .ge 43, 3) := by decide +kernel
theorem dX6_born_24 : decode cX6_born 24 = .ok (.aload_n 0, 1) := by decide +kernel
theorem dX6_born_25 : decode cX6_born 25 = .ok (.getfield 12, 3) := by decide +kernel
theorem dX6_born_28 : decode cX6_born 28 = .ok (.getfield 126, 3) := by decide +kernel
theorem dX6_born_31 : decode cX6_born 31 = .ok (.bipush 8, 2) := by decide +kernel
theorem dX6_born_33 : decode cX6_born 33 = .ok (.if_icmp .ge 31, 3) := by decide +kernel
theorem dX6_born_36 : decode cX6_born 36 = .ok (.aload_n 0, 1) := by decide +kernel
theorem dX6_born_37 : decode cX6_born 37 = .ok (.getfield 12, 3) := by decide +kernel
theorem dX6_born_40 : decode cX6_born 40 = .ok (.aload_n 0, 1) := by decide +kernel
theorem dX6_born_41 : decode cX6_born 41 = .ok (.getfield 12, 3) := by decide +kernel
theorem dX6_born_44 : decode cX6_born 44 = .ok (.invokevirtual 152, 3) := by decide +kernel
theorem dX6_born_47 : decode cX6_born 47 = .ok (.bipush 9, 2) := by decide +kernel
theorem dX6_born_49 : decode cX6_born 49 = .ok (.irem, 1) := by decide +kernel
theorem dX6_born_50 : decode cX6_born 50 = .ok (.iconst 1, 1) := by decide +kernel
theorem dX6_born_51 : decode cX6_born 51 = .ok (.iadd, 1) := by decide +kernel
theorem dX6_born_52 : decode cX6_born 52 = .ok (.iconst 0, 1) := by decide +kernel
theorem dX6_born_53 : decode cX6_born 53 = .ok (.iconst (-1), 1) := by decide +kernel
theorem dX6_born_54 : decode cX6_born 54 = .ok (.invokevirtual 129, 3) := by decide +kernel
theorem dX6_born_57 : decode cX6_born 57 = .ok (.pop, 1) := by decide +kernel
theorem dX6_born_58 : decode cX6_born 58 = .ok (.iinc 2 1, 3) := by decide +kernel
theorem dX6_born_61 : decode cX6_born 61 = .ok (.goto (-42), 3) := by decide +kernel
theorem dX6_born_64 : decode cX6_born 64 = .ok (.aload_n 0, 1) := by decide +kernel
theorem dX6_born_65 : decode cX6_born 65 = .ok (.getfield 12, 3) := by decide +kernel
theorem dX6_born_68 : decode cX6_born 68 = .ok (.getfield 126, 3) := by decide +kernel
theorem dX6_born_71 : decode cX6_born 71 = .ok (.ireturn, 1) := by decide +kernel
theorem dX6_years_0 : decode cX6_years 0 = .ok (.iload_n 1, 1) := by decide +kernel
theorem dX6_years_1 : decode cX6_years 1 = .ok (.iconst 1, 1) := by decide +kernel
theorem dX6_years_2 : decode cX6_years 2 = .ok (.bipush 60, 2) := by decide +kernel
theorem dX6_years_4 : decode cX6_years 4 = .ok (.invokestatic 60, 3) := by decide +kernel
theorem dX6_years_7 : decode cX6_years 7 = .ok (.ifCond .ne 10, 3) := by decide +kernel
theorem dX6_years_10 : decode cX6_years 10 = .ok (.aload_n 0, 1) := by decide +kernel
theorem dX6_years_11 : decode cX6_years 11 = .ok (.ldc 64, 2) := by decide +kernel
theorem dX6_years_13 : decode cX6_years 13 = .ok (.invokevirtual 65, 3) := by decide +kernel
theorem dX6_years_16 : decode cX6_years 16 = .ok (.ireturn, 1) := by decide +kernel
theorem dX6_years_17 : decode cX6_years 17 = .ok (.aload_n 0, 1) := by decide +kernel
theorem dX6_years_18 : decode cX6_years 18 = .ok (.iload_n 1, 1) := by decide +kernel
theorem dX6_years_19 : decode cX6_years 19 = .ok (.invokevirtual 156, 3) := by decide +kernel
theorem dX6_years_22 : decode cX6_years 22 = .ok (.ifCond .eq 10, 3) := by decide +kernel
theorem dX6_years_25 : decode cX6_years 25 = .ok (.aload_n 0, 1) := by decide +kernel
theorem dX6_years_26 : decode cX6_years 26 = .ok (.ldc 151, 2) := by decide +kernel
theorem dX6_years_28 : decode cX6_years 28 = .ok (.invokevirtual 65, 3) := by decide +kernel
theorem dX6_years_31 : decode cX6_years 31 = .ok (.ireturn, 1) := by decide +kernel
theorem dX6_years_32 : decode cX6_years 32 = .ok (.aload_n 0, 1) := by decide +kernel
theorem dX6_years_33 : decode cX6_years 33 = .ok (.getfield 12, 3) := by decide +kernel
theorem dX6_years_36 : decode cX6_years 36 = .ok (.invokevirtual 159, 3) := by decide +kernel
theorem dX6_years_39 : decode cX6_years 39 = .ok (.istore_n 2, 1) := by decide +kernel
theorem dX6_years_40 : decode cX6_years 40 = .ok (.aload_n 0, 1) := by decide +kernel
theorem dX6_years_41 : decode cX6_years 41 = .ok (.getfield 25, 3) := by decide +kernel
theorem dX6_years_44 : decode cX6_years 44 = .ok (.aload_n 0, 1) := by decide +kernel
theorem dX6_years_45 : decode cX6_years 45 = .ok (.getfield 12, 3) := by decide +kernel
theorem dX6_years_48 : decode cX6_years 48 = .ok (.iload_n 1, 1) := by decide +kernel
theorem dX6_years_49 : decode cX6_years 49 = .ok (.invokevirtual 162, 3) := by decide +kernel
theorem dX6_years_52 : decode cX6_years 52 = .ok (.aload_n 0, 1) := by decide +kernel
theorem dX6_years_53 : decode cX6_years 53 = .ok (.getfield 12, 3) := by decide +kernel
theorem dX6_years_56 : decode cX6_years 56 = .ok (.invokevirtual 159, 3) := by decide +kernel
theorem dX6_years_59 : decode cX6_years 59 = .ok (.iload_n 2, 1) := by decide +kernel
theorem dX6_years_60 : decode cX6_years 60 = .ok (.isub, 1) := by decide +kernel
theorem dX6_years_61 : decode cX6_years 61 = .ok (.ireturn, 1) := by decide +kernel
theorem dX6_ahead_0 : decode cX6_ahead 0 = .ok (.iload_n 1, 1) := by decide +kernel
theorem dX6_ahead_1 : decode cX6_ahead 1 = .ok (.iconst 0, 1) := by decide +kernel
theorem dX6_ahead_2 : decode cX6_ahead 2 = .ok (.bipush 100, 2) := by decide +kernel
theorem dX6_ahead_4 : decode cX6_ahead 4 = .ok (.invokestatic 60, 3) := by decide +kernel
theorem dX6_ahead_7 : decode cX6_ahead 7 = .ok (.ifCond .eq 12, 3) := by decide +kernel
theorem dX6_ahead_10 : decode cX6_ahead 10 = .ok (.iload_n 2, 1) := by decide +kernel
theorem dX6_ahead_11 : decode cX6_ahead 11 = .ok (.iconst 0, 1) := by decide +kernel
theorem dX6_ahead_12 : decode cX6_ahead 12 = .ok (.iconst 4, 1) := by decide +kernel
theorem dX6_ahead_13 : decode cX6_ahead 13 = .ok (.invokestatic 60, 3) := by decide +kernel
theorem dX6_ahead_16 : decode cX6_ahead 16 = .ok (.ifCond .ne 10, 3) := by decide +kernel
theorem dX6_ahead_19 : decode cX6_ahead 19 = .ok (.aload_n 0, 1) := by decide +kernel
theorem dX6_ahead_20 : decode cX6_ahead 20 = .ok (.ldc 64, 2) := by decide +kernel
theorem dX6_ahead_22 : decode cX6_ahead 22 = .ok (.invokevirtual 65, 3) := by decide +kernel
theorem dX6_ahead_25 : decode cX6_ahead 25 = .ok (.ireturn, 1) := by decide +kernel
theorem dX6_ahead_26 : decode cX6_ahead 26 = .ok (.aload_n 0, 1) := by decide +kernel
theorem dX6_ahead_27 : decode cX6_ahead 27 = .ok (.iload_n 1, 1) := by decide +kernel
theorem dX6_ahead_28 : decode cX6_ahead 28 = .ok (.invokevirtual 156, 3) := by decide +kernel
theorem dX6_ahead_31 : decode cX6_ahead 31 = .ok (.ifCond .eq 10, 3) := by decide +kernel
theorem dX6_ahead_34 : decode cX6_ahead 34 = .ok (.aload_n 0, 1) := by decide +kernel
theorem dX6_ahead_35 : decode cX6_ahead 35 = .ok (.ldc 151, 2) := by decide +kernel
theorem dX6_ahead_37 : decode cX6_ahead 37 = .ok (.invokevirtual 65, 3) := by decide +kernel
theorem dX6_ahead_40 : decode cX6_ahead 40 = .ok (.ireturn, 1) := by decide +kernel
theorem dX6_ahead_41 : decode cX6_ahead 41 = .ok (.aload_n 0, 1) := by decide +kernel
theorem dX6_ahead_42 : decode cX6_ahead 42 = .ok (.iload_n 1, 1) := by decide +kernel
theorem dX6_ahead_43 : decode cX6_ahead 43 = .ok (.invokevirtual 166, 3) := by decide +kernel
theorem dX6_ahead_46 : decode cX6_ahead 46 = .ok (.iload_n 2, 1) := by decide +kernel
theorem dX6_ahead_47 : decode cX6_ahead 47 = .ok (.tableswitch 69 0 3 #[29, 45, 53, 61], 29) := by decide +kernel
theorem dX6_ahead_76 : decode cX6_ahead 76 = .ok (.aload_n 0, 1) := by decide +kernel
theorem dX6_ahead_77 : decode cX6_ahead 77 = .ok (.getfield 19, 3) := by decide +kernel
theorem dX6_ahead_80 : decode cX6_ahead 80 = .ok (.getfield 77, 3) := by decide +kernel
theorem dX6_ahead_83 : decode cX6_ahead 83 = .ok (.aload_n 0, 1) := by decide +kernel
theorem dX6_ahead_84 : decode cX6_ahead 84 = .ok (.getfield 19, 3) := by decide +kernel
theorem dX6_ahead_87 : decode cX6_ahead 87 = .ok (.invokevirtual 159, 3) := by decide +kernel
theorem dX6_ahead_90 : decode cX6_ahead 90 = .ok (.isub, 1) := by decide +kernel
theorem dX6_ahead_91 : decode cX6_ahead 91 = .ok (.ireturn, 1) := by decide +kernel
theorem dX6_ahead_92 : decode cX6_ahead 92 = .ok (.aload_n 0, 1) := by decide +kernel
theorem dX6_ahead_93 : decode cX6_ahead 93 = .ok (.getfield 19, 3) := by decide +kernel
theorem dX6_ahead_96 : decode cX6_ahead 96 = .ok (.invokevirtual 170, 3) := by decide +kernel
theorem dX6_ahead_99 : decode cX6_ahead 99 = .ok (.ireturn, 1) := by decide +kernel
theorem dX6_ahead_100 : decode cX6_ahead 100 = .ok (.aload_n 0, 1) := by decide +kernel
theorem dX6_ahead_101 : decode cX6_ahead 101 = .ok (.getfield 19, 3) := by decide +kernel
theorem dX6_ahead_104 : decode cX6_ahead 104 = .ok (.invokevirtual 173, 3) := by decide +kernel
theorem dX6_ahead_107 : decode cX6_ahead 107 = .ok (.ireturn, 1) := by decide +kernel
theorem dX6_ahead_108 : decode cX6_ahead 108 = .ok (.aload_n 0, 1) := by decide +kernel
theorem dX6_ahead_109 : decode cX6_ahead 109 = .ok (.getfield 19, 3) := by decide +kernel
theorem dX6_ahead_112 : decode cX6_ahead 112 = .ok (.invokevirtual 176, 3) := by decide +kernel
theorem dX6_ahead_115 : decode cX6_ahead 115 = .ok (.ireturn, 1) := by decide +kernel
theorem dX6_ahead_116 : decode cX6_ahead 116 = .ok (.aload_n 0, 1) := by decide +kernel
theorem dX6_ahead_117 : decode cX6_ahead 117 = .ok (.getfield 19, 3) := by decide +kernel
theorem dX6_ahead_120 : decode cX6_ahead 120 = .ok (.invokevirtual 179, 3) := by decide +kernel
theorem dX6_ahead_123 : decode cX6_ahead 123 = .ok (.ireturn, 1) := by decide +kernel
theorem dX6_shut_0 : decode cX6_shut 0 = .ok (.iload_n 1, 1) := by decide +kernel
theorem dX6_shut_1 : decode cX6_shut 1 = .ok (.invokestatic 56, 3) := by decide +kernel
theorem dX6_shut_4 : decode cX6_shut 4 = .ok (.ifCond .ne 10, 3) := by decide +kernel
theorem dX6_shut_7 : decode cX6_shut 7 = .ok (.aload_n 0, 1) := by decide +kernel
theorem dX6_shut_8 : decode cX6_shut 8 = .ok (.ldc 64, 2) := by decide +kernel
theorem dX6_shut_10 : decode cX6_shut 10 = .ok (.invokevirtual 65, 3) := by decide +kernel
theorem dX6_shut_13 : decode cX6_shut 13 = .ok (.ireturn, 1) := by decide +kernel
theorem dX6_shut_14 : decode cX6_shut 14 = .ok (.aload_n 0, 1) := by decide +kernel
theorem dX6_shut_15 : decode cX6_shut 15 = .ok (.bipush 100, 2) := by decide +kernel
theorem dX6_shut_17 : decode cX6_shut 17 = .ok (.invokevirtual 156, 3) := by decide +kernel
theorem dX6_shut_20 : decode cX6_shut 20 = .ok (.ifCond .eq 10, 3) := by decide +kernel
theorem dX6_shut_23 : decode cX6_shut 23 = .ok (.aload_n 0, 1) := by decide +kernel
theorem dX6_shut_24 : decode cX6_shut 24 = .ok (.ldc 151, 2) := by decide +kernel
theorem dX6_shut_26 : decode cX6_shut 26 = .ok (.invokevirtual 65, 3) := by decide +kernel
theorem dX6_shut_29 : decode cX6_shut 29 = .ok (.ireturn, 1) := by decide +kernel
theorem dX6_shut_30 : decode cX6_shut 30 = .ok (.aload_n 0, 1) := by decide +kernel
theorem dX6_shut_31 : decode cX6_shut 31 = .ok (.iconst 0, 1) := by decide +kernel
theorem dX6_shut_32 : decode cX6_shut 32 = .ok (.invokevirtual 166, 3) := by decide +kernel
theorem dX6_shut_35 : decode cX6_shut 35 = .ok (.iconst 0, 1) := by decide +kernel
theorem dX6_shut_36 : decode cX6_shut 36 = .ok (.istore_n 2, 1) := by decide +kernel
theorem dX6_shut_37 : decode cX6_shut 37 = .ok (.iload_n 2, 1) := by decide +kernel
theorem dX6_shut_38 : decode cX6_shut 38 = .ok (.bipush 100, 2) := by decide +kernel
theorem dX6_shut_40 : decode cX6_shut 40 = .ok (.if_icmp .gt 34, 3) := by decide +kernel
theorem dX6_shut_43 : decode cX6_shut 43 = .ok (.aload_n 0, 1) := by decide +kernel
theorem dX6_shut_44 : decode cX6_shut 44 = .ok (.getfield 19, 3) := by decide +kernel
theorem dX6_shut_47 : decode cX6_shut 47 = .ok (.iload_n 1, 1) := by decide +kernel
theorem dX6_shut_48 : decode cX6_shut 48 = .ok (.invokevirtual 108, 3) := by decide +kernel
theorem dX6_shut_51 : decode cX6_shut 51 = .ok (.ifCond .ne 5, 3) := by decide +kernel
theorem dX6_shut_54 : decode cX6_shut 54 = .ok (.iload_n 2, 1) := by decide +kernel
theorem dX6_shut_55 : decode cX6_shut 55 = .ok (.ireturn, 1) := by decide +kernel
theorem dX6_shut_56 : decode cX6_shut 56 = .ok (.aload_n 0, 1) := by decide +kernel
theorem dX6_shut_57 : decode cX6_shut 57 = .ok (.getfield 25, 3) := by decide +kernel
theorem dX6_shut_60 : decode cX6_shut 60 = .ok (.aload_n 0, 1) := by decide +kernel
theorem dX6_shut_61 : decode cX6_shut 61 = .ok (.getfield 19, 3) := by decide +kernel
theorem dX6_shut_64 : decode cX6_shut 64 = .ok (.iconst 1, 1) := by decide +kernel
theorem dX6_shut_65 : decode cX6_shut 65 = .ok (.invokevirtual 162, 3) := by decide +kernel
theorem dX6_shut_68 : decode cX6_shut 68 = .ok (.iinc 2 1, 3) := by decide +kernel
theorem dX6_shut_71 : decode cX6_shut 71 = .ok (.goto (-34), 3) := by decide +kernel
theorem dX6_shut_74 : decode cX6_shut 74 = .ok (.aload_n 0, 1) := by decide +kernel
theorem dX6_shut_75 : decode cX6_shut 75 = .ok (.ldc 182, 2) := by decide +kernel
theorem dX6_shut_77 : decode cX6_shut 77 = .ok (.invokevirtual 65, 3) := by decide +kernel
theorem dX6_shut_80 : decode cX6_shut 80 = .ok (.ireturn, 1) := by decide +kernel
theorem dX6_ends_0 : decode cX6_ends 0 = .ok (.aload_n 0, 1) := by decide +kernel
theorem dX6_ends_1 : decode cX6_ends 1 = .ok (.getfield 12, 3) := by decide +kernel
theorem dX6_ends_4 : decode cX6_ends 4 = .ok (.iload_n 1, 1) := by decide +kernel
theorem dX6_ends_5 : decode cX6_ends 5 = .ok (.invokevirtual 86, 3) := by decide +kernel
theorem dX6_ends_8 : decode cX6_ends 8 = .ok (.ifCond .ne 10, 3) := by decide +kernel
theorem dX6_ends_11 : decode cX6_ends 11 = .ok (.aload_n 0, 1) := by decide +kernel
theorem dX6_ends_12 : decode cX6_ends 12 = .ok (.ldc 64, 2) := by decide +kernel
theorem dX6_ends_14 : decode cX6_ends 14 = .ok (.invokevirtual 65, 3) := by decide +kernel
theorem dX6_ends_17 : decode cX6_ends 17 = .ok (.ireturn, 1) := by decide +kernel
theorem dX6_ends_18 : decode cX6_ends 18 = .ok (.aload_n 0, 1) := by decide +kernel
theorem dX6_ends_19 : decode cX6_ends 19 = .ok (.bipush 100, 2) := by decide +kernel
theorem dX6_ends_21 : decode cX6_ends 21 = .ok (.invokevirtual 156, 3) := by decide +kernel
theorem dX6_ends_24 : decode cX6_ends 24 = .ok (.ifCond .eq 10, 3) := by decide +kernel
theorem dX6_ends_27 : decode cX6_ends 27 = .ok (.aload_n 0, 1) := by decide +kernel
theorem dX6_ends_28 : decode cX6_ends 28 = .ok (.ldc 151, 2) := by decide +kernel
theorem dX6_ends_30 : decode cX6_ends 30 = .ok (.invokevirtual 65, 3) := by decide +kernel
theorem dX6_ends_33 : decode cX6_ends 33 = .ok (.ireturn, 1) := by decide +kernel
theorem dX6_ends_34 : decode cX6_ends 34 = .ok (.aload_n 0, 1) := by decide +kernel
theorem dX6_ends_35 : decode cX6_ends 35 = .ok (.iconst 0, 1) := by decide +kernel
theorem dX6_ends_36 : decode cX6_ends 36 = .ok (.invokevirtual 166, 3) := by decide +kernel
theorem dX6_ends_39 : decode cX6_ends 39 = .ok (.iconst 0, 1) := by decide +kernel
theorem dX6_ends_40 : decode cX6_ends 40 = .ok (.istore_n 2, 1) := by decide +kernel
theorem dX6_ends_41 : decode cX6_ends 41 = .ok (.iload_n 2, 1) := by decide +kernel
theorem dX6_ends_42 : decode cX6_ends 42 = .ok (.bipush 100, 2) := by decide +kernel
theorem dX6_ends_44 : decode cX6_ends 44 = .ok (.if_icmp .gt 34, 3) := by decide +kernel
theorem dX6_ends_47 : decode cX6_ends 47 = .ok (.aload_n 0, 1) := by decide +kernel
theorem dX6_ends_48 : decode cX6_ends 48 = .ok (.getfield 19, 3) := by decide +kernel
theorem dX6_ends_51 : decode cX6_ends 51 = .ok (.iload_n 1, 1) := by decide +kernel
theorem dX6_ends_52 : decode cX6_ends 52 = .ok (.invokevirtual 183, 3) := by decide +kernel
theorem dX6_ends_55 : decode cX6_ends 55 = .ok (.ifCond .eq 5, 3) := by decide +kernel
theorem dX6_ends_58 : decode cX6_ends 58 = .ok (.iload_n 2, 1) := by decide +kernel
theorem dX6_ends_59 : decode cX6_ends 59 = .ok (.ireturn, 1) := by decide +kernel
theorem dX6_ends_60 : decode cX6_ends 60 = .ok (.aload_n 0, 1) := by decide +kernel
theorem dX6_ends_61 : decode cX6_ends 61 = .ok (.getfield 25, 3) := by decide +kernel
theorem dX6_ends_64 : decode cX6_ends 64 = .ok (.aload_n 0, 1) := by decide +kernel
theorem dX6_ends_65 : decode cX6_ends 65 = .ok (.getfield 19, 3) := by decide +kernel
theorem dX6_ends_68 : decode cX6_ends 68 = .ok (.iconst 1, 1) := by decide +kernel
theorem dX6_ends_69 : decode cX6_ends 69 = .ok (.invokevirtual 162, 3) := by decide +kernel
theorem dX6_ends_72 : decode cX6_ends 72 = .ok (.iinc 2 1, 3) := by decide +kernel
theorem dX6_ends_75 : decode cX6_ends 75 = .ok (.goto (-34), 3) := by decide +kernel
theorem dX6_ends_78 : decode cX6_ends 78 = .ok (.aload_n 0, 1) := by decide +kernel
theorem dX6_ends_79 : decode cX6_ends 79 = .ok (.ldc 182, 2) := by decide +kernel
theorem dX6_ends_81 : decode cX6_ends 81 = .ok (.invokevirtual 65, 3) := by decide +kernel
theorem dX6_ends_84 : decode cX6_ends 84 = .ok (.ireturn, 1) := by decide +kernel
theorem dX6_choose_0 : decode cX6_choose 0 = .ok (.aload_n 0, 1) := by decide +kernel
theorem dX6_choose_1 : decode cX6_choose 1 = .ok (.getfield 12, 3) := by decide +kernel
theorem dX6_choose_4 : decode cX6_choose 4 = .ok (.iload_n 1, 1) := by decide +kernel
theorem dX6_choose_5 : decode cX6_choose 5 = .ok (.invokevirtual 133, 3) := by decide +kernel
theorem dX6_choose_8 : decode cX6_choose 8 = .ok (.ifCond .ne 10, 3) := by decide +kernel
theorem dX6_choose_11 : decode cX6_choose 11 = .ok (.aload_n 0, 1) := by decide +kernel
theorem dX6_choose_12 : decode cX6_choose 12 = .ok (.ldc 64, 2) := by decide +kernel
theorem dX6_choose_14 : decode cX6_choose 14 = .ok (.invokevirtual 65, 3) := by decide +kernel
theorem dX6_choose_17 : decode cX6_choose 17 = .ok (.ireturn, 1) := by decide +kernel
theorem dX6_choose_18 : decode cX6_choose 18 = .ok (.aload_n 0, 1) := by decide +kernel
theorem dX6_choose_19 : decode cX6_choose 19 = .ok (.getfield 12, 3) := by decide +kernel
theorem dX6_choose_22 : decode cX6_choose 22 = .ok (.getfield 136, 3) := by decide +kernel
theorem dX6_choose_25 : decode cX6_choose 25 = .ok (.iload_n 1, 1) := by decide +kernel
theorem dX6_choose_26 : decode cX6_choose 26 = .ok (.iaload, 1) := by decide +kernel
theorem dX6_choose_27 : decode cX6_choose 27 = .ok (.ifCond .ge 26, 3) := by decide +kernel
theorem dX6_choose_30 : decode cX6_choose 30 = .ok (.aload_n 0, 1) := by decide +kernel
theorem dX6_choose_31 : decode cX6_choose 31 = .ok (.getfield 12, 3) := by decide +kernel
theorem dX6_choose_34 : decode cX6_choose 34 = .ok (.getfield 139, 3) := by decide +kernel
theorem dX6_choose_37 : decode cX6_choose 37 = .ok (.iload_n 1, 1) := by decide +kernel
theorem dX6_choose_38 : decode cX6_choose 38 = .ok (.iaload, 1) := by decide +kernel
theorem dX6_choose_39 : decode cX6_choose 39 = .ok (.bipush 40, 2) := by decide +kernel
theorem dX6_choose_41 : decode cX6_choose 41 = .ok (.if_icmp .ge 12, 3) := by decide +kernel
theorem dX6_choose_44 : decode cX6_choose 44 = .ok (.aload_n 0, 1) := by decide +kernel
theorem dX6_choose_45 : decode cX6_choose 45 = .ok (.bipush 40, 2) := by decide +kernel
theorem dX6_choose_47 : decode cX6_choose 47 = .ok (.invokevirtual 156, 3) := by decide +kernel
theorem dX6_choose_50 : decode cX6_choose 50 = .ok (.ifCond .eq 10, 3) := by decide +kernel
theorem dX6_choose_53 : decode cX6_choose 53 = .ok (.aload_n 0, 1) := by decide +kernel
theorem dX6_choose_54 : decode cX6_choose 54 = .ok (.ldc 151, 2) := by decide +kernel
theorem dX6_choose_56 : decode cX6_choose 56 = .ok (.invokevirtual 65, 3) := by decide +kernel
theorem dX6_choose_59 : decode cX6_choose 59 = .ok (.ireturn, 1) := by decide +kernel
theorem dX6_choose_60 : decode cX6_choose 60 = .ok (.aload_n 0, 1) := by decide +kernel
theorem dX6_choose_61 : decode cX6_choose 61 = .ok (.getfield 12, 3) := by decide +kernel
theorem dX6_choose_64 : decode cX6_choose 64 = .ok (.invokevirtual 186, 3) := by decide +kernel
theorem dX6_choose_67 : decode cX6_choose 67 = .ok (.istore_n 2, 1) := by decide +kernel
theorem dX6_choose_68 : decode cX6_choose 68 = .ok (.iconst (-1), 1) := by decide +kernel
theorem dX6_choose_69 : decode cX6_choose 69 = .ok (.istore_n 3, 1) := by decide +kernel
theorem dX6_choose_70 : decode cX6_choose 70 = .ok (.iconst 0, 1) := by decide +kernel
theorem dX6_choose_71 : decode cX6_choose 71 = .ok (.istore 4, 2) := by decide +kernel
theorem dX6_choose_73 : decode cX6_choose 73 = .ok (.iload 4, 2) := by decide +kernel
theorem dX6_choose_75 : decode cX6_choose 75 = .ok (.bipush 8, 2) := by decide +kernel
theorem dX6_choose_77 : decode cX6_choose 77 = .ok (.if_icmp .ge 79, 3) := by decide +kernel
theorem dX6_choose_80 : decode cX6_choose 80 = .ok (.iload_n 3, 1) := by decide +kernel
theorem dX6_choose_81 : decode cX6_choose 81 = .ok (.ifCond .lt 25, 3) := by decide +kernel
theorem dX6_choose_84 : decode cX6_choose 84 = .ok (.aload_n 0, 1) := by decide +kernel
theorem dX6_choose_85 : decode cX6_choose 85 = .ok (.getfield 12, 3) := by decide +kernel
theorem dX6_choose_88 : decode cX6_choose 88 = .ok (.getfield 69, 3) := by decide +kernel
theorem dX6_choose_91 : decode cX6_choose 91 = .ok (.iload 4, 2) := by decide +kernel
theorem dX6_choose_93 : decode cX6_choose 93 = .ok (.iaload, 1) := by decide +kernel
theorem dX6_choose_94 : decode cX6_choose 94 = .ok (.aload_n 0, 1) := by decide +kernel
theorem dX6_choose_95 : decode cX6_choose 95 = .ok (.getfield 12, 3) := by decide +kernel
theorem dX6_choose_98 : decode cX6_choose 98 = .ok (.getfield 69, 3) := by decide +kernel
theorem dX6_choose_101 : decode cX6_choose 101 = .ok (.iload_n 3, 1) := by decide +kernel
theorem dX6_choose_102 : decode cX6_choose 102 = .ok (.iaload, 1) := by decide +kernel
theorem dX6_choose_103 : decode cX6_choose 103 = .ok (.if_icmp .le 7, 3) := by decide +kernel
theorem dX6_choose_106 : decode cX6_choose 106 = .ok (.iconst 1, 1) := by decide +kernel
theorem dX6_choose_107 : decode cX6_choose 107 = .ok (.goto 4, 3) := by decide +kernel
theorem dX6_choose_110 : decode cX6_choose 110 = .ok (.iconst 0, 1) := by decide +kernel
theorem dX6_choose_111 : decode cX6_choose 111 = .ok (.istore 5, 2) := by decide +kernel
theorem dX6_choose_113 : decode cX6_choose 113 = .ok (.iload_n 2, 1) := by decide +kernel
theorem dX6_choose_114 : decode cX6_choose 114 = .ok (.iload 4, 2) := by decide +kernel
theorem dX6_choose_116 : decode cX6_choose 116 = .ok (.iushr, 1) := by decide +kernel
theorem dX6_choose_117 : decode cX6_choose 117 = .ok (.iconst 1, 1) := by decide +kernel
theorem dX6_choose_118 : decode cX6_choose 118 = .ok (.iand, 1) := by decide +kernel
theorem dX6_choose_119 : decode cX6_choose 119 = .ok (.iconst 1, 1) := by decide +kernel
theorem dX6_choose_120 : decode cX6_choose 120 = .ok (.if_icmp .ne 30, 3) := by decide +kernel
theorem dX6_choose_123 : decode cX6_choose 123 = .ok (.iload 5, 2) := by decide +kernel
theorem dX6_choose_125 : decode cX6_choose 125 = .ok (.ifCond .eq 25, 3) := by decide +kernel
theorem dX6_choose_128 : decode cX6_choose 128 = .ok (.aload_n 0, 1) := by decide +kernel
theorem dX6_choose_129 : decode cX6_choose 129 = .ok (.iload_n 1, 1) := by decide +kernel
theorem dX6_choose_130 : decode cX6_choose 130 = .ok (.iload 4, 2) := by decide +kernel
theorem dX6_choose_132 : decode cX6_choose 132 = .ok (.aload_n 0, 1) := by decide +kernel
theorem dX6_choose_133 : decode cX6_choose 133 = .ok (.getfield 12, 3) := by decide +kernel
theorem dX6_choose_136 : decode cX6_choose 136 = .ok (.getfield 142, 3) := by decide +kernel
theorem dX6_choose_139 : decode cX6_choose 139 = .ok (.iload_n 1, 1) := by decide +kernel
theorem dX6_choose_140 : decode cX6_choose 140 = .ok (.iaload, 1) := by decide +kernel
theorem dX6_choose_141 : decode cX6_choose 141 = .ok (.invokevirtual 189, 3) := by decide +kernel
theorem dX6_choose_144 : decode cX6_choose 144 = .ok (.ifCond .eq 6, 3) := by decide +kernel
theorem dX6_choose_147 : decode cX6_choose 147 = .ok (.iload 4, 2) := by decide +kernel
theorem dX6_choose_149 : decode cX6_choose 149 = .ok (.istore_n 3, 1) := by decide +kernel
theorem dX6_choose_150 : decode cX6_choose 150 = .ok (.iinc 4 1, 3) := by decide +kernel
theorem dX6_choose_153 : decode cX6_choose 153 = .ok (.goto (-80), 3) := by decide +kernel
theorem dX6_choose_156 : decode cX6_choose 156 = .ok (.iload_n 3, 1) := by decide +kernel
theorem dX6_choose_157 : decode cX6_choose 157 = .ok (.ifCond .ge 12, 3) := by decide +kernel
theorem dX6_choose_160 : decode cX6_choose 160 = .ok (.aload_n 0, 1) := by decide +kernel
theorem dX6_choose_161 : decode cX6_choose 161 = .ok (.ldc 182, 2) := by decide +kernel
theorem dX6_choose_163 : decode cX6_choose 163 = .ok (.invokevirtual 65, 3) := by decide +kernel
theorem dX6_choose_166 : decode cX6_choose 166 = .ok (.goto 4, 3) := by decide +kernel
theorem dX6_choose_169 : decode cX6_choose 169 = .ok (.iload_n 3, 1) := by decide +kernel
theorem dX6_choose_170 : decode cX6_choose 170 = .ok (.ireturn, 1) := by decide +kernel
end
section
theorem dX6_handsFor_0 : decode cX6_handsFor 0 = .ok (.aload_n 0, 1) := by decide +kernel
theorem dX6_handsFor_1 : decode cX6_handsFor 1 = .ok (.getfield 12, 3) := by decide +kernel
theorem dX6_handsFor_4 : decode cX6_handsFor 4 = .ok (.iload_n 1, 1) := by decide +kernel
theorem dX6_handsFor_5 : decode cX6_handsFor 5 = .ok (.invokevirtual 133, 3) := by decide +kernel
theorem dX6_handsFor_8 : decode cX6_handsFor 8 = .ok (.ifCond .ne 10, 3) := by decide +kernel
theorem dX6_handsFor_11 : decode cX6_handsFor 11 = .ok (.aload_n 0, 1) := by decide +kernel
theorem dX6_handsFor_12 : decode cX6_handsFor 12 = .ok (.ldc 64, 2) := by decide +kernel
theorem dX6_handsFor_14 : decode cX6_handsFor 14 = .ok (.invokevirtual 65, 3) := by decide +kernel
theorem dX6_handsFor_17 : decode cX6_handsFor 17 = .ok (.ireturn, 1) := by decide +kernel
theorem dX6_handsFor_18 : decode cX6_handsFor 18 = .ok (.aload_n 0, 1) := by decide +kernel
theorem dX6_handsFor_19 : decode cX6_handsFor 19 = .ok (.getfield 12, 3) := by decide +kernel
theorem dX6_handsFor_22 : decode cX6_handsFor 22 = .ok (.getfield 136, 3) := by decide +kernel
theorem dX6_handsFor_25 : decode cX6_handsFor 25 = .ok (.iload_n 1, 1) := by decide +kernel
theorem dX6_handsFor_26 : decode cX6_handsFor 26 = .ok (.iaload, 1) := by decide +kernel
theorem dX6_handsFor_27 : decode cX6_handsFor 27 = .ok (.istore_n 2, 1) := by decide +kernel
theorem dX6_handsFor_28 : decode cX6_handsFor 28 = .ok (.iload_n 2, 1) := by decide +kernel
theorem dX6_handsFor_29 : decode cX6_handsFor 29 = .ok (.ifCond .lt 12, 3) := by decide +kernel
theorem dX6_handsFor_32 : decode cX6_handsFor 32 = .ok (.aload_n 0, 1) := by decide +kernel
theorem dX6_handsFor_33 : decode cX6_handsFor 33 = .ok (.bipush 40, 2) := by decide +kernel
theorem dX6_handsFor_35 : decode cX6_handsFor 35 = .ok (.invokevirtual 156, 3) := by decide +kernel
theorem dX6_handsFor_38 : decode cX6_handsFor 38 = .ok (.ifCond .eq 10, 3) := by decide +kernel
theorem dX6_handsFor_41 : decode cX6_handsFor 41 = .ok (.aload_n 0, 1) := by decide +kernel
theorem dX6_handsFor_42 : decode cX6_handsFor 42 = .ok (.ldc 151, 2) := by decide +kernel
theorem dX6_handsFor_44 : decode cX6_handsFor 44 = .ok (.invokevirtual 65, 3) := by decide +kernel
theorem dX6_handsFor_47 : decode cX6_handsFor 47 = .ok (.ireturn, 1) := by decide +kernel
theorem dX6_handsFor_48 : decode cX6_handsFor 48 = .ok (.iconst 1, 1) := by decide +kernel
theorem dX6_handsFor_49 : decode cX6_handsFor 49 = .ok (.istore_n 3, 1) := by decide +kernel
theorem dX6_handsFor_50 : decode cX6_handsFor 50 = .ok (.iload_n 3, 1) := by decide +kernel
theorem dX6_handsFor_51 : decode cX6_handsFor 51 = .ok (.bipush 9, 2) := by decide +kernel
theorem dX6_handsFor_53 : decode cX6_handsFor 53 = .ok (.if_icmp .gt 21, 3) := by decide +kernel
theorem dX6_handsFor_56 : decode cX6_handsFor 56 = .ok (.aload_n 0, 1) := by decide +kernel
theorem dX6_handsFor_57 : decode cX6_handsFor 57 = .ok (.iload_n 1, 1) := by decide +kernel
theorem dX6_handsFor_58 : decode cX6_handsFor 58 = .ok (.iload_n 2, 1) := by decide +kernel
theorem dX6_handsFor_59 : decode cX6_handsFor 59 = .ok (.iload_n 3, 1) := by decide +kernel
theorem dX6_handsFor_60 : decode cX6_handsFor 60 = .ok (.invokevirtual 189, 3) := by decide +kernel
theorem dX6_handsFor_63 : decode cX6_handsFor 63 = .ok (.ifCond .eq 5, 3) := by decide +kernel
theorem dX6_handsFor_66 : decode cX6_handsFor 66 = .ok (.iload_n 3, 1) := by decide +kernel
theorem dX6_handsFor_67 : decode cX6_handsFor 67 = .ok (.ireturn, 1) := by decide +kernel
theorem dX6_handsFor_68 : decode cX6_handsFor 68 = .ok (.iinc 3 1, 3) := by decide +kernel
theorem dX6_handsFor_71 : decode cX6_handsFor 71 = .ok (.goto (-21), 3) := by decide +kernel
theorem dX6_handsFor_74 : decode cX6_handsFor 74 = .ok (.aload_n 0, 1) := by decide +kernel
theorem dX6_handsFor_75 : decode cX6_handsFor 75 = .ok (.ldc 182, 2) := by decide +kernel
theorem dX6_handsFor_77 : decode cX6_handsFor 77 = .ok (.invokevirtual 65, 3) := by decide +kernel
theorem dX6_handsFor_80 : decode cX6_handsFor 80 = .ok (.ireturn, 1) := by decide +kernel
theorem dX6_most_0 : decode cX6_most 0 = .ok (.aload_n 0, 1) := by decide +kernel
theorem dX6_most_1 : decode cX6_most 1 = .ok (.iload_n 1, 1) := by decide +kernel
theorem dX6_most_2 : decode cX6_most 2 = .ok (.invokevirtual 192, 3) := by decide +kernel
theorem dX6_most_5 : decode cX6_most 5 = .ok (.istore_n 2, 1) := by decide +kernel
theorem dX6_most_6 : decode cX6_most 6 = .ok (.iload_n 2, 1) := by decide +kernel
theorem dX6_most_7 : decode cX6_most 7 = .ok (.ifCond .eq 9, 3) := by decide +kernel
theorem dX6_most_10 : decode cX6_most 10 = .ok (.aload_n 0, 1) := by decide +kernel
theorem dX6_most_11 : decode cX6_most 11 = .ok (.iload_n 2, 1) := by decide +kernel
theorem dX6_most_12 : decode cX6_most 12 = .ok (.invokevirtual 65, 3) := by decide +kernel
theorem dX6_most_15 : decode cX6_most 15 = .ok (.ireturn, 1) := by decide +kernel
theorem dX6_most_16 : decode cX6_most 16 = .ok (.aload_n 0, 1) := by decide +kernel
theorem dX6_most_17 : decode cX6_most 17 = .ok (.getfield 34, 3) := by decide +kernel
theorem dX6_most_20 : decode cX6_most 20 = .ok (.aload_n 0, 1) := by decide +kernel
theorem dX6_most_21 : decode cX6_most 21 = .ok (.getfield 12, 3) := by decide +kernel
theorem dX6_most_24 : decode cX6_most 24 = .ok (.iload_n 1, 1) := by decide +kernel
theorem dX6_most_25 : decode cX6_most 25 = .ok (.invokevirtual 195, 3) := by decide +kernel
theorem dX6_most_28 : decode cX6_most 28 = .ok (.aload_n 0, 1) := by decide +kernel
theorem dX6_most_29 : decode cX6_most 29 = .ok (.getfield 34, 3) := by decide +kernel
theorem dX6_most_32 : decode cX6_most 32 = .ok (.aload_n 0, 1) := by decide +kernel
theorem dX6_most_33 : decode cX6_most 33 = .ok (.getfield 12, 3) := by decide +kernel
theorem dX6_most_36 : decode cX6_most 36 = .ok (.iload_n 1, 1) := by decide +kernel
theorem dX6_most_37 : decode cX6_most 37 = .ok (.iconst 0, 1) := by decide +kernel
theorem dX6_most_38 : decode cX6_most 38 = .ok (.aload_n 0, 1) := by decide +kernel
theorem dX6_most_39 : decode cX6_most 39 = .ok (.getfield 12, 3) := by decide +kernel
theorem dX6_most_42 : decode cX6_most 42 = .ok (.invokevirtual 186, 3) := by decide +kernel
theorem dX6_most_45 : decode cX6_most 45 = .ok (.aload_n 0, 1) := by decide +kernel
theorem dX6_most_46 : decode cX6_most 46 = .ok (.getfield 34, 3) := by decide +kernel
theorem dX6_most_49 : decode cX6_most 49 = .ok (.getfield 198, 3) := by decide +kernel
theorem dX6_most_52 : decode cX6_most 52 = .ok (.invokevirtual 201, 3) := by decide +kernel
theorem dX6_most_55 : decode cX6_most 55 = .ok (.aload_n 0, 1) := by decide +kernel
theorem dX6_most_56 : decode cX6_most 56 = .ok (.getfield 34, 3) := by decide +kernel
theorem dX6_most_59 : decode cX6_most 59 = .ok (.getfield 205, 3) := by decide +kernel
theorem dX6_most_62 : decode cX6_most 62 = .ok (.ireturn, 1) := by decide +kernel
theorem dX6_give_0 : decode cX6_give 0 = .ok (.aload_n 0, 1) := by decide +kernel
theorem dX6_give_1 : decode cX6_give 1 = .ok (.iload_n 1, 1) := by decide +kernel
theorem dX6_give_2 : decode cX6_give 2 = .ok (.invokevirtual 192, 3) := by decide +kernel
theorem dX6_give_5 : decode cX6_give 5 = .ok (.istore_n 2, 1) := by decide +kernel
theorem dX6_give_6 : decode cX6_give 6 = .ok (.iload_n 2, 1) := by decide +kernel
theorem dX6_give_7 : decode cX6_give 7 = .ok (.ifCond .eq 9, 3) := by decide +kernel
theorem dX6_give_10 : decode cX6_give 10 = .ok (.aload_n 0, 1) := by decide +kernel
theorem dX6_give_11 : decode cX6_give 11 = .ok (.iload_n 2, 1) := by decide +kernel
theorem dX6_give_12 : decode cX6_give 12 = .ok (.invokevirtual 65, 3) := by decide +kernel
theorem dX6_give_15 : decode cX6_give 15 = .ok (.ireturn, 1) := by decide +kernel
theorem dX6_give_16 : decode cX6_give 16 = .ok (.aload_n 0, 1) := by decide +kernel
theorem dX6_give_17 : decode cX6_give 17 = .ok (.getfield 34, 3) := by decide +kernel
theorem dX6_give_20 : decode cX6_give 20 = .ok (.aload_n 0, 1) := by decide +kernel
theorem dX6_give_21 : decode cX6_give 21 = .ok (.getfield 12, 3) := by decide +kernel
theorem dX6_give_24 : decode cX6_give 24 = .ok (.iload_n 1, 1) := by decide +kernel
theorem dX6_give_25 : decode cX6_give 25 = .ok (.invokevirtual 195, 3) := by decide +kernel
theorem dX6_give_28 : decode cX6_give 28 = .ok (.aload_n 0, 1) := by decide +kernel
theorem dX6_give_29 : decode cX6_give 29 = .ok (.getfield 34, 3) := by decide +kernel
theorem dX6_give_32 : decode cX6_give 32 = .ok (.aload_n 0, 1) := by decide +kernel
theorem dX6_give_33 : decode cX6_give 33 = .ok (.getfield 12, 3) := by decide +kernel
theorem dX6_give_36 : decode cX6_give 36 = .ok (.iload_n 1, 1) := by decide +kernel
theorem dX6_give_37 : decode cX6_give 37 = .ok (.iconst 0, 1) := by decide +kernel
theorem dX6_give_38 : decode cX6_give 38 = .ok (.aload_n 0, 1) := by decide +kernel
theorem dX6_give_39 : decode cX6_give 39 = .ok (.getfield 12, 3) := by decide +kernel
theorem dX6_give_42 : decode cX6_give 42 = .ok (.invokevirtual 186, 3) := by decide +kernel
theorem dX6_give_45 : decode cX6_give 45 = .ok (.aload_n 0, 1) := by decide +kernel
theorem dX6_give_46 : decode cX6_give 46 = .ok (.getfield 34, 3) := by decide +kernel
theorem dX6_give_49 : decode cX6_give 49 = .ok (.getfield 198, 3) := by decide +kernel
theorem dX6_give_52 : decode cX6_give 52 = .ok (.invokevirtual 201, 3) := by decide +kernel
theorem dX6_give_55 : decode cX6_give 55 = .ok (.aload_n 0, 1) := by decide +kernel
theorem dX6_give_56 : decode cX6_give 56 = .ok (.getfield 34, 3) := by decide +kernel
theorem dX6_give_59 : decode cX6_give 59 = .ok (.aload_n 0, 1) := by decide +kernel
theorem dX6_give_60 : decode cX6_give 60 = .ok (.getfield 12, 3) := by decide +kernel
theorem dX6_give_63 : decode cX6_give 63 = .ok (.invokevirtual 208, 3) := by decide +kernel
theorem dX6_give_66 : decode cX6_give 66 = .ok (.ireturn, 1) := by decide +kernel
theorem dX6_lives_0 : decode cX6_lives 0 = .ok (.iload_n 1, 1) := by decide +kernel
theorem dX6_lives_1 : decode cX6_lives 1 = .ok (.invokestatic 56, 3) := by decide +kernel
theorem dX6_lives_4 : decode cX6_lives 4 = .ok (.ifCond .eq 13, 3) := by decide +kernel
theorem dX6_lives_7 : decode cX6_lives 7 = .ok (.iload_n 2, 1) := by decide +kernel
theorem dX6_lives_8 : decode cX6_lives 8 = .ok (.iconst 1, 1) := by decide +kernel
theorem dX6_lives_9 : decode cX6_lives 9 = .ok (.bipush 9, 2) := by decide +kernel
theorem dX6_lives_11 : decode cX6_lives 11 = .ok (.invokestatic 60, 3) := by decide +kernel
theorem dX6_lives_14 : decode cX6_lives 14 = .ok (.ifCond .ne 10, 3) := by decide +kernel
theorem dX6_lives_17 : decode cX6_lives 17 = .ok (.aload_n 0, 1) := by decide +kernel
theorem dX6_lives_18 : decode cX6_lives 18 = .ok (.ldc 64, 2) := by decide +kernel
theorem dX6_lives_20 : decode cX6_lives 20 = .ok (.invokevirtual 65, 3) := by decide +kernel
theorem dX6_lives_23 : decode cX6_lives 23 = .ok (.ireturn, 1) := by decide +kernel
theorem dX6_lives_24 : decode cX6_lives 24 = .ok (.aload_n 0, 1) := by decide +kernel
theorem dX6_lives_25 : decode cX6_lives 25 = .ok (.getfield 12, 3) := by decide +kernel
theorem dX6_lives_28 : decode cX6_lives 28 = .ok (.iload_n 1, 1) := by decide +kernel
theorem dX6_lives_29 : decode cX6_lives 29 = .ok (.invokevirtual 108, 3) := by decide +kernel
theorem dX6_lives_32 : decode cX6_lives 32 = .ok (.ifCond .ne 10, 3) := by decide +kernel
theorem dX6_lives_35 : decode cX6_lives 35 = .ok (.aload_n 0, 1) := by decide +kernel
theorem dX6_lives_36 : decode cX6_lives 36 = .ok (.ldc 151, 2) := by decide +kernel
theorem dX6_lives_38 : decode cX6_lives 38 = .ok (.invokevirtual 65, 3) := by decide +kernel
theorem dX6_lives_41 : decode cX6_lives 41 = .ok (.ireturn, 1) := by decide +kernel
theorem dX6_lives_42 : decode cX6_lives 42 = .ok (.aload_n 0, 1) := by decide +kernel
theorem dX6_lives_43 : decode cX6_lives 43 = .ok (.iconst 0, 1) := by decide +kernel
theorem dX6_lives_44 : decode cX6_lives 44 = .ok (.invokevirtual 166, 3) := by decide +kernel
theorem dX6_lives_47 : decode cX6_lives 47 = .ok (.iconst 1, 1) := by decide +kernel
theorem dX6_lives_48 : decode cX6_lives 48 = .ok (.istore_n 3, 1) := by decide +kernel
theorem dX6_lives_49 : decode cX6_lives 49 = .ok (.iload_n 3, 1) := by decide +kernel
theorem dX6_lives_50 : decode cX6_lives 50 = .ok (.bipush 9, 2) := by decide +kernel
theorem dX6_lives_52 : decode cX6_lives 52 = .ok (.if_icmp .gt 54, 3) := by decide +kernel
theorem dX6_lives_55 : decode cX6_lives 55 = .ok (.aload_n 0, 1) := by decide +kernel
theorem dX6_lives_56 : decode cX6_lives 56 = .ok (.getfield 19, 3) := by decide +kernel
theorem dX6_lives_59 : decode cX6_lives 59 = .ok (.iconst 0, 1) := by decide +kernel
theorem dX6_lives_60 : decode cX6_lives 60 = .ok (.putfield 126, 3) := by decide +kernel
theorem dX6_lives_63 : decode cX6_lives 63 = .ok (.aload_n 0, 1) := by decide +kernel
theorem dX6_lives_64 : decode cX6_lives 64 = .ok (.getfield 19, 3) := by decide +kernel
theorem dX6_lives_67 : decode cX6_lives 67 = .ok (.iload_n 2, 1) := by decide +kernel
theorem dX6_lives_68 : decode cX6_lives 68 = .ok (.iconst 0, 1) := by decide +kernel
theorem dX6_lives_69 : decode cX6_lives 69 = .ok (.iload_n 1, 1) := by decide +kernel
theorem dX6_lives_70 : decode cX6_lives 70 = .ok (.invokevirtual 129, 3) := by decide +kernel
theorem dX6_lives_73 : decode cX6_lives 73 = .ok (.pop, 1) := by decide +kernel
theorem dX6_lives_74 : decode cX6_lives 74 = .ok (.aload_n 0, 1) := by decide +kernel
theorem dX6_lives_75 : decode cX6_lives 75 = .ok (.getfield 25, 3) := by decide +kernel
theorem dX6_lives_78 : decode cX6_lives 78 = .ok (.aload_n 0, 1) := by decide +kernel
theorem dX6_lives_79 : decode cX6_lives 79 = .ok (.getfield 19, 3) := by decide +kernel
theorem dX6_lives_82 : decode cX6_lives 82 = .ok (.bipush 40, 2) := by decide +kernel
theorem dX6_lives_84 : decode cX6_lives 84 = .ok (.invokevirtual 162, 3) := by decide +kernel
theorem dX6_lives_87 : decode cX6_lives 87 = .ok (.aload_n 0, 1) := by decide +kernel
theorem dX6_lives_88 : decode cX6_lives 88 = .ok (.getfield 19, 3) := by decide +kernel
theorem dX6_lives_91 : decode cX6_lives 91 = .ok (.iload_n 1, 1) := by decide +kernel
theorem dX6_lives_92 : decode cX6_lives 92 = .ok (.invokevirtual 108, 3) := by decide +kernel
theorem dX6_lives_95 : decode cX6_lives 95 = .ok (.ifCond .ne 5, 3) := by decide +kernel
theorem dX6_lives_98 : decode cX6_lives 98 = .ok (.iload_n 3, 1) := by decide +kernel
theorem dX6_lives_99 : decode cX6_lives 99 = .ok (.ireturn, 1) := by decide +kernel
theorem dX6_lives_100 : decode cX6_lives 100 = .ok (.iinc 3 1, 3) := by decide +kernel
theorem dX6_lives_103 : decode cX6_lives 103 = .ok (.goto (-54), 3) := by decide +kernel
theorem dX6_lives_106 : decode cX6_lives 106 = .ok (.aload_n 0, 1) := by decide +kernel
theorem dX6_lives_107 : decode cX6_lives 107 = .ok (.ldc 182, 2) := by decide +kernel
theorem dX6_lives_109 : decode cX6_lives 109 = .ok (.invokevirtual 65, 3) := by decide +kernel
theorem dX6_lives_112 : decode cX6_lives 112 = .ok (.ireturn, 1) := by decide +kernel
theorem dX6_best_0 : decode cX6_best 0 = .ok (.iload_n 1, 1) := by decide +kernel
theorem dX6_best_1 : decode cX6_best 1 = .ok (.iconst 1, 1) := by decide +kernel
theorem dX6_best_2 : decode cX6_best 2 = .ok (.bipush 60, 2) := by decide +kernel
theorem dX6_best_4 : decode cX6_best 4 = .ok (.invokestatic 60, 3) := by decide +kernel
theorem dX6_best_7 : decode cX6_best 7 = .ok (.ifCond .ne 10, 3) := by decide +kernel
theorem dX6_best_10 : decode cX6_best 10 = .ok (.aload_n 0, 1) := by decide +kernel
theorem dX6_best_11 : decode cX6_best 11 = .ok (.ldc 64, 2) := by decide +kernel
theorem dX6_best_13 : decode cX6_best 13 = .ok (.invokevirtual 65, 3) := by decide +kernel
theorem dX6_best_16 : decode cX6_best 16 = .ok (.ireturn, 1) := by decide +kernel
theorem dX6_best_17 : decode cX6_best 17 = .ok (.aload_n 0, 1) := by decide +kernel
theorem dX6_best_18 : decode cX6_best 18 = .ok (.iload_n 1, 1) := by decide +kernel
theorem dX6_best_19 : decode cX6_best 19 = .ok (.invokevirtual 156, 3) := by decide +kernel
theorem dX6_best_22 : decode cX6_best 22 = .ok (.ifCond .eq 10, 3) := by decide +kernel
theorem dX6_best_25 : decode cX6_best 25 = .ok (.aload_n 0, 1) := by decide +kernel
theorem dX6_best_26 : decode cX6_best 26 = .ok (.ldc 151, 2) := by decide +kernel
theorem dX6_best_28 : decode cX6_best 28 = .ok (.invokevirtual 65, 3) := by decide +kernel
theorem dX6_best_31 : decode cX6_best 31 = .ok (.ireturn, 1) := by decide +kernel
theorem dX6_best_32 : decode cX6_best 32 = .ok (.iconst (-1), 1) := by decide +kernel
theorem dX6_best_33 : decode cX6_best 33 = .ok (.istore_n 2, 1) := by decide +kernel
theorem dX6_best_34 : decode cX6_best 34 = .ok (.iconst 0, 1) := by decide +kernel
theorem dX6_best_35 : decode cX6_best 35 = .ok (.istore_n 3, 1) := by decide +kernel
theorem dX6_best_36 : decode cX6_best 36 = .ok (.iconst 0, 1) := by decide +kernel
theorem dX6_best_37 : decode cX6_best 37 = .ok (.istore 4, 2) := by decide +kernel
theorem dX6_best_39 : decode cX6_best 39 = .ok (.iload 4, 2) := by decide +kernel
theorem dX6_best_41 : decode cX6_best 41 = .ok (.aload_n 0, 1) := by decide +kernel
theorem dX6_best_42 : decode cX6_best 42 = .ok (.getfield 12, 3) := by decide +kernel
theorem dX6_best_45 : decode cX6_best 45 = .ok (.getfield 77, 3) := by decide +kernel
theorem dX6_best_48 : decode cX6_best 48 = .ok (.if_icmp .ge 83, 3) := by decide +kernel
theorem dX6_best_51 : decode cX6_best 51 = .ok (.aload_n 0, 1) := by decide +kernel
theorem dX6_best_52 : decode cX6_best 52 = .ok (.getfield 12, 3) := by decide +kernel
theorem dX6_best_55 : decode cX6_best 55 = .ok (.iload 4, 2) := by decide +kernel
theorem dX6_best_57 : decode cX6_best 57 = .ok (.invokevirtual 183, 3) := by decide +kernel
theorem dX6_best_60 : decode cX6_best 60 = .ok (.ifCond .eq 6, 3) := by decide +kernel
theorem dX6_best_63 : decode cX6_best 63 = .ok (.goto 62, 3) := by decide +kernel
theorem dX6_best_66 : decode cX6_best 66 = .ok (.aload_n 0, 1) := by decide +kernel
theorem dX6_best_67 : decode cX6_best 67 = .ok (.getfield 19, 3) := by decide +kernel
theorem dX6_best_70 : decode cX6_best 70 = .ok (.aload_n 0, 1) := by decide +kernel
theorem dX6_best_71 : decode cX6_best 71 = .ok (.getfield 12, 3) := by decide +kernel
theorem dX6_best_74 : decode cX6_best 74 = .ok (.invokevirtual 212, 3) := by decide +kernel
theorem dX6_best_77 : decode cX6_best 77 = .ok (.aload_n 0, 1) := by decide +kernel
theorem dX6_best_78 : decode cX6_best 78 = .ok (.getfield 19, 3) := by decide +kernel
theorem dX6_best_81 : decode cX6_best 81 = .ok (.getfield 95, 3) := by decide +kernel
theorem dX6_best_84 : decode cX6_best 84 = .ok (.iload 4, 2) := by decide +kernel
theorem dX6_best_86 : decode cX6_best 86 = .ok (.iconst 0, 1) := by decide +kernel
theorem dX6_best_87 : decode cX6_best 87 = .ok (.iastore, 1) := by decide +kernel
theorem dX6_best_88 : decode cX6_best 88 = .ok (.aload_n 0, 1) := by decide +kernel
theorem dX6_best_89 : decode cX6_best 89 = .ok (.getfield 25, 3) := by decide +kernel
theorem dX6_best_92 : decode cX6_best 92 = .ok (.aload_n 0, 1) := by decide +kernel
theorem dX6_best_93 : decode cX6_best 93 = .ok (.getfield 19, 3) := by decide +kernel
theorem dX6_best_96 : decode cX6_best 96 = .ok (.iload_n 1, 1) := by decide +kernel
theorem dX6_best_97 : decode cX6_best 97 = .ok (.invokevirtual 162, 3) := by decide +kernel
theorem dX6_best_100 : decode cX6_best 100 = .ok (.aload_n 0, 1) := by decide +kernel
theorem dX6_best_101 : decode cX6_best 101 = .ok (.getfield 19, 3) := by decide +kernel
theorem dX6_best_104 : decode cX6_best 104 = .ok (.invokevirtual 170, 3) := by decide +kernel
theorem dX6_best_107 : decode cX6_best 107 = .ok (.istore 5, 2) := by decide +kernel
theorem dX6_best_109 : decode cX6_best 109 = .ok (.iload_n 2, 1) := by decide +kernel
theorem dX6_best_110 : decode cX6_best 110 = .ok (.ifCond .lt 9, 3) := by decide +kernel
theorem dX6_best_113 : decode cX6_best 113 = .ok (.iload 5, 2) := by decide +kernel
theorem dX6_best_115 : decode cX6_best 115 = .ok (.iload_n 3, 1) := by decide +kernel
theorem dX6_best_116 : decode cX6_best 116 = .ok (.if_icmp .ge 9, 3) := by decide +kernel
theorem dX6_best_119 : decode cX6_best 119 = .ok (.iload 4, 2) := by decide +kernel
theorem dX6_best_121 : decode cX6_best 121 = .ok (.istore_n 2, 1) := by decide +kernel
theorem dX6_best_122 : decode cX6_best 122 = .ok (.iload 5, 2) := by decide +kernel
theorem dX6_best_124 : decode cX6_best 124 = .ok (.istore_n 3, 1) := by decide +kernel
theorem dX6_best_125 : decode cX6_best 125 = .ok (.iinc 4 1, 3) := by decide +kernel
theorem dX6_best_128 : decode cX6_best 128 = .ok (.goto (-89), 3) := by decide +kernel
theorem dX6_best_131 : decode cX6_best 131 = .ok (.iload_n 2, 1) := by decide +kernel
theorem dX6_best_132 : decode cX6_best 132 = .ok (.ifCond .ge 12, 3) := by decide +kernel
theorem dX6_best_135 : decode cX6_best 135 = .ok (.aload_n 0, 1) := by decide +kernel
theorem dX6_best_136 : decode cX6_best 136 = .ok (.ldc 182, 2) := by decide +kernel
theorem dX6_best_138 : decode cX6_best 138 = .ok (.invokevirtual 65, 3) := by decide +kernel
theorem dX6_best_141 : decode cX6_best 141 = .ok (.goto 4, 3) := by decide +kernel
theorem dX6_best_144 : decode cX6_best 144 = .ok (.iload_n 2, 1) := by decide +kernel
theorem dX6_best_145 : decode cX6_best 145 = .ok (.ireturn, 1) := by decide +kernel
theorem dX6_whom_0 : decode cX6_whom 0 = .ok (.aload_n 0, 1) := by decide +kernel
theorem dX6_whom_1 : decode cX6_whom 1 = .ok (.getfield 12, 3) := by decide +kernel
theorem dX6_whom_4 : decode cX6_whom 4 = .ok (.iload_n 1, 1) := by decide +kernel
theorem dX6_whom_5 : decode cX6_whom 5 = .ok (.invokevirtual 133, 3) := by decide +kernel
theorem dX6_whom_8 : decode cX6_whom 8 = .ok (.ifCond .eq 13, 3) := by decide +kernel
theorem dX6_whom_11 : decode cX6_whom 11 = .ok (.iload_n 2, 1) := by decide +kernel
theorem dX6_whom_12 : decode cX6_whom 12 = .ok (.iconst 1, 1) := by decide +kernel
theorem dX6_whom_13 : decode cX6_whom 13 = .ok (.bipush 60, 2) := by decide +kernel
theorem dX6_whom_15 : decode cX6_whom 15 = .ok (.invokestatic 60, 3) := by decide +kernel
theorem dX6_whom_18 : decode cX6_whom 18 = .ok (.ifCond .ne 10, 3) := by decide +kernel
theorem dX6_whom_21 : decode cX6_whom 21 = .ok (.aload_n 0, 1) := by decide +kernel
theorem dX6_whom_22 : decode cX6_whom 22 = .ok (.ldc 64, 2) := by decide +kernel
theorem dX6_whom_24 : decode cX6_whom 24 = .ok (.invokevirtual 65, 3) := by decide +kernel
theorem dX6_whom_27 : decode cX6_whom 27 = .ok (.ireturn, 1) := by decide +kernel
theorem dX6_whom_28 : decode cX6_whom 28 = .ok (.aload_n 0, 1) := by decide +kernel
theorem dX6_whom_29 : decode cX6_whom 29 = .ok (.iload_n 2, 1) := by decide +kernel
theorem dX6_whom_30 : decode cX6_whom 30 = .ok (.invokevirtual 156, 3) := by decide +kernel
theorem dX6_whom_33 : decode cX6_whom 33 = .ok (.ifCond .eq 10, 3) := by decide +kernel
theorem dX6_whom_36 : decode cX6_whom 36 = .ok (.aload_n 0, 1) := by decide +kernel
theorem dX6_whom_37 : decode cX6_whom 37 = .ok (.ldc 151, 2) := by decide +kernel
theorem dX6_whom_39 : decode cX6_whom 39 = .ok (.invokevirtual 65, 3) := by decide +kernel
theorem dX6_whom_42 : decode cX6_whom 42 = .ok (.ireturn, 1) := by decide +kernel
theorem dX6_whom_43 : decode cX6_whom 43 = .ok (.iconst (-1), 1) := by decide +kernel
theorem dX6_whom_44 : decode cX6_whom 44 = .ok (.istore_n 3, 1) := by decide +kernel
theorem dX6_whom_45 : decode cX6_whom 45 = .ok (.iconst 0, 1) := by decide +kernel
theorem dX6_whom_46 : decode cX6_whom 46 = .ok (.istore 4, 2) := by decide +kernel
theorem dX6_whom_48 : decode cX6_whom 48 = .ok (.iconst (-1), 1) := by decide +kernel
theorem dX6_whom_49 : decode cX6_whom 49 = .ok (.istore 5, 2) := by decide +kernel
theorem dX6_whom_51 : decode cX6_whom 51 = .ok (.iload 5, 2) := by decide +kernel
theorem dX6_whom_53 : decode cX6_whom 53 = .ok (.aload_n 0, 1) := by decide +kernel
theorem dX6_whom_54 : decode cX6_whom 54 = .ok (.getfield 12, 3) := by decide +kernel
theorem dX6_whom_57 : decode cX6_whom 57 = .ok (.getfield 126, 3) := by decide +kernel
theorem dX6_whom_60 : decode cX6_whom 60 = .ok (.if_icmp .ge 80, 3) := by decide +kernel
theorem dX6_whom_63 : decode cX6_whom 63 = .ok (.iload 5, 2) := by decide +kernel
theorem dX6_whom_65 : decode cX6_whom 65 = .ok (.iload_n 1, 1) := by decide +kernel
theorem dX6_whom_66 : decode cX6_whom 66 = .ok (.if_icmp .ne 6, 3) := by decide +kernel
theorem dX6_whom_69 : decode cX6_whom 69 = .ok (.goto 65, 3) := by decide +kernel
theorem dX6_whom_72 : decode cX6_whom 72 = .ok (.aload_n 0, 1) := by decide +kernel
theorem dX6_whom_73 : decode cX6_whom 73 = .ok (.getfield 19, 3) := by decide +kernel
theorem dX6_whom_76 : decode cX6_whom 76 = .ok (.aload_n 0, 1) := by decide +kernel
theorem dX6_whom_77 : decode cX6_whom 77 = .ok (.getfield 12, 3) := by decide +kernel
theorem dX6_whom_80 : decode cX6_whom 80 = .ok (.invokevirtual 212, 3) := by decide +kernel
theorem dX6_whom_83 : decode cX6_whom 83 = .ok (.aload_n 0, 1) := by decide +kernel
theorem dX6_whom_84 : decode cX6_whom 84 = .ok (.getfield 19, 3) := by decide +kernel
theorem dX6_whom_87 : decode cX6_whom 87 = .ok (.getfield 145, 3) := by decide +kernel
theorem dX6_whom_90 : decode cX6_whom 90 = .ok (.iload_n 1, 1) := by decide +kernel
theorem dX6_whom_91 : decode cX6_whom 91 = .ok (.iload 5, 2) := by decide +kernel
theorem dX6_whom_93 : decode cX6_whom 93 = .ok (.iastore, 1) := by decide +kernel
theorem dX6_whom_94 : decode cX6_whom 94 = .ok (.aload_n 0, 1) := by decide +kernel
theorem dX6_whom_95 : decode cX6_whom 95 = .ok (.getfield 25, 3) := by decide +kernel
theorem dX6_whom_98 : decode cX6_whom 98 = .ok (.aload_n 0, 1) := by decide +kernel
theorem dX6_whom_99 : decode cX6_whom 99 = .ok (.getfield 19, 3) := by decide +kernel
theorem dX6_whom_102 : decode cX6_whom 102 = .ok (.iload_n 2, 1) := by decide +kernel
theorem dX6_whom_103 : decode cX6_whom 103 = .ok (.invokevirtual 162, 3) := by decide +kernel
theorem dX6_whom_106 : decode cX6_whom 106 = .ok (.aload_n 0, 1) := by decide +kernel
theorem dX6_whom_107 : decode cX6_whom 107 = .ok (.getfield 19, 3) := by decide +kernel
theorem dX6_whom_110 : decode cX6_whom 110 = .ok (.invokevirtual 170, 3) := by decide +kernel
theorem dX6_whom_113 : decode cX6_whom 113 = .ok (.istore 6, 2) := by decide +kernel
theorem dX6_whom_115 : decode cX6_whom 115 = .ok (.iload 5, 2) := by decide +kernel
theorem dX6_whom_117 : decode cX6_whom 117 = .ok (.ifCond .lt 10, 3) := by decide +kernel
theorem dX6_whom_120 : decode cX6_whom 120 = .ok (.iload 6, 2) := by decide +kernel
theorem dX6_whom_122 : decode cX6_whom 122 = .ok (.iload 4, 2) := by decide +kernel
theorem dX6_whom_124 : decode cX6_whom 124 = .ok (.if_icmp .ge 10, 3) := by decide +kernel
theorem dX6_whom_127 : decode cX6_whom 127 = .ok (.iload 5, 2) := by decide +kernel
theorem dX6_whom_129 : decode cX6_whom 129 = .ok (.istore_n 3, 1) := by decide +kernel
theorem dX6_whom_130 : decode cX6_whom 130 = .ok (.iload 6, 2) := by decide +kernel
theorem dX6_whom_132 : decode cX6_whom 132 = .ok (.istore 4, 2) := by decide +kernel
theorem dX6_whom_134 : decode cX6_whom 134 = .ok (.iinc 5 1, 3) := by decide +kernel
theorem dX6_whom_137 : decode cX6_whom 137 = .ok (.goto (-86), 3) := by decide +kernel
theorem dX6_whom_140 : decode cX6_whom 140 = .ok (.iload_n 3, 1) := by decide +kernel
theorem dX6_whom_141 : decode cX6_whom 141 = .ok (.ireturn, 1) := by decide +kernel
theorem dX6_seed_0 : decode cX6_seed 0 = .ok (.aload_n 0, 1) := by decide +kernel
theorem dX6_seed_1 : decode cX6_seed 1 = .ok (.getfield 12, 3) := by decide +kernel
theorem dX6_seed_4 : decode cX6_seed 4 = .ok (.getfield 216, 3) := by decide +kernel
theorem dX6_seed_7 : decode cX6_seed 7 = .ok (.istore_n 2, 1) := by decide +kernel
theorem dX6_seed_8 : decode cX6_seed 8 = .ok (.aload_n 0, 1) := by decide +kernel
theorem dX6_seed_9 : decode cX6_seed 9 = .ok (.getfield 12, 3) := by decide +kernel
theorem dX6_seed_12 : decode cX6_seed 12 = .ok (.iload_n 1, 1) := by decide +kernel
theorem dX6_seed_13 : decode cX6_seed 13 = .ok (.putfield 216, 3) := by decide +kernel
theorem dX6_seed_16 : decode cX6_seed 16 = .ok (.iload_n 2, 1) := by decide +kernel
theorem dX6_seed_17 : decode cX6_seed 17 = .ok (.ireturn, 1) := by decide +kernel
theorem dX6_feed_0 : decode cX6_feed 0 = .ok (.iload_n 2, 1) := by decide +kernel
theorem dX6_feed_1 : decode cX6_feed 1 = .ok (.iconst 1, 1) := by decide +kernel
theorem dX6_feed_2 : decode cX6_feed 2 = .ok (.iconst 4, 1) := by decide +kernel
theorem dX6_feed_3 : decode cX6_feed 3 = .ok (.invokestatic 60, 3) := by decide +kernel
theorem dX6_feed_6 : decode cX6_feed 6 = .ok (.ifCond .ne 10, 3) := by decide +kernel
theorem dX6_feed_9 : decode cX6_feed 9 = .ok (.aload_n 0, 1) := by decide +kernel
theorem dX6_feed_10 : decode cX6_feed 10 = .ok (.ldc 64, 2) := by decide +kernel
theorem dX6_feed_12 : decode cX6_feed 12 = .ok (.invokevirtual 65, 3) := by decide +kernel
theorem dX6_feed_15 : decode cX6_feed 15 = .ok (.ireturn, 1) := by decide +kernel
theorem dX6_feed_16 : decode cX6_feed 16 = .ok (.aload_n 0, 1) := by decide +kernel
theorem dX6_feed_17 : decode cX6_feed 17 = .ok (.getfield 41, 3) := by decide +kernel
theorem dX6_feed_20 : decode cX6_feed 20 = .ok (.iload_n 2, 1) := by decide +kernel
theorem dX6_feed_21 : decode cX6_feed 21 = .ok (.invokevirtual 219, 3) := by decide +kernel
theorem dX6_feed_24 : decode cX6_feed 24 = .ok (.ifCond .eq 15, 3) := by decide +kernel
theorem dX6_feed_27 : decode cX6_feed 27 = .ok (.aload_n 0, 1) := by decide +kernel
theorem dX6_feed_28 : decode cX6_feed 28 = .ok (.getfield 41, 3) := by decide +kernel
theorem dX6_feed_31 : decode cX6_feed 31 = .ok (.iload_n 1, 1) := by decide +kernel
theorem dX6_feed_32 : decode cX6_feed 32 = .ok (.iload_n 2, 1) := by decide +kernel
theorem dX6_feed_33 : decode cX6_feed 33 = .ok (.invokevirtual 222, 3) := by decide +kernel
theorem dX6_feed_36 : decode cX6_feed 36 = .ok (.goto 9, 3) := by decide +kernel
theorem dX6_feed_39 : decode cX6_feed 39 = .ok (.aload_n 0, 1) := by decide +kernel
theorem dX6_feed_40 : decode cX6_feed 40 = .ok (.ldc 81, 2) := by decide +kernel
theorem dX6_feed_42 : decode cX6_feed 42 = .ok (.invokevirtual 65, 3) := by decide +kernel
theorem dX6_feed_45 : decode cX6_feed 45 = .ok (.ireturn, 1) := by decide +kernel
theorem dX6_wipe_0 : decode cX6_wipe 0 = .ok (.aload_n 0, 1) := by decide +kernel
theorem dX6_wipe_1 : decode cX6_wipe 1 = .ok (.getfield 41, 3) := by decide +kernel
theorem dX6_wipe_4 : decode cX6_wipe 4 = .ok (.invokevirtual 226, 3) := by decide +kernel
theorem dX6_wipe_7 : decode cX6_wipe 7 = .ok (.ireturn, 1) := by decide +kernel
theorem dX6_text_0 : decode cX6_text 0 = .ok (.aload_n 0, 1) := by decide +kernel
theorem dX6_text_1 : decode cX6_text 1 = .ok (.getfield 19, 3) := by decide +kernel
theorem dX6_text_4 : decode cX6_text 4 = .ok (.aload_n 0, 1) := by decide +kernel
theorem dX6_text_5 : decode cX6_text 5 = .ok (.getfield 12, 3) := by decide +kernel
theorem dX6_text_8 : decode cX6_text 8 = .ok (.invokevirtual 212, 3) := by decide +kernel
theorem dX6_text_11 : decode cX6_text 11 = .ok (.aload_n 0, 1) := by decide +kernel
theorem dX6_text_12 : decode cX6_text 12 = .ok (.getfield 41, 3) := by decide +kernel
theorem dX6_text_15 : decode cX6_text 15 = .ok (.aload_n 0, 1) := by decide +kernel
theorem dX6_text_16 : decode cX6_text 16 = .ok (.getfield 19, 3) := by decide +kernel
theorem dX6_text_19 : decode cX6_text 19 = .ok (.invokevirtual 229, 3) := by decide +kernel
theorem dX6_text_22 : decode cX6_text 22 = .ok (.istore_n 1, 1) := by decide +kernel
theorem dX6_text_23 : decode cX6_text 23 = .ok (.aload_n 0, 1) := by decide +kernel
theorem dX6_text_24 : decode cX6_text 24 = .ok (.getfield 41, 3) := by decide +kernel
theorem dX6_text_27 : decode cX6_text 27 = .ok (.invokevirtual 226, 3) := by decide +kernel
theorem dX6_text_30 : decode cX6_text 30 = .ok (.pop, 1) := by decide +kernel
theorem dX6_text_31 : decode cX6_text 31 = .ok (.iload_n 1, 1) := by decide +kernel
theorem dX6_text_32 : decode cX6_text 32 = .ok (.ifCond .lt 14, 3) := by decide +kernel
theorem dX6_text_35 : decode cX6_text 35 = .ok (.aload_n 0, 1) := by decide +kernel
theorem dX6_text_36 : decode cX6_text 36 = .ok (.getfield 12, 3) := by decide +kernel
theorem dX6_text_39 : decode cX6_text 39 = .ok (.aload_n 0, 1) := by decide +kernel
theorem dX6_text_40 : decode cX6_text 40 = .ok (.getfield 19, 3) := by decide +kernel
theorem dX6_text_43 : decode cX6_text 43 = .ok (.invokevirtual 212, 3) := by decide +kernel
theorem dX6_text_46 : decode cX6_text 46 = .ok (.iload_n 1, 1) := by decide +kernel
theorem dX6_text_47 : decode cX6_text 47 = .ok (.ireturn, 1) := by decide +kernel
theorem dX6_hold_0 : decode cX6_hold 0 = .ok (.iload_n 1, 1) := by decide +kernel
theorem dX6_hold_1 : decode cX6_hold 1 = .ok (.iconst 0, 1) := by decide +kernel
theorem dX6_hold_2 : decode cX6_hold 2 = .ok (.bipush 9, 2) := by decide +kernel
theorem dX6_hold_4 : decode cX6_hold 4 = .ok (.invokestatic 60, 3) := by decide +kernel
theorem dX6_hold_7 : decode cX6_hold 7 = .ok (.ifCond .eq 19, 3) := by decide +kernel
theorem dX6_hold_10 : decode cX6_hold 10 = .ok (.iload_n 2, 1) := by decide +kernel
theorem dX6_hold_11 : decode cX6_hold 11 = .ok (.iconst (-1), 1) := by decide +kernel
theorem dX6_hold_12 : decode cX6_hold 12 = .ok (.if_icmp .eq 21, 3) := by decide +kernel
theorem dX6_hold_15 : decode cX6_hold 15 = .ok (.aload_n 0, 1) := by decide +kernel
theorem dX6_hold_16 : decode cX6_hold 16 = .ok (.getfield 12, 3) := by decide +kernel
theorem dX6_hold_19 : decode cX6_hold 19 = .ok (.iload_n 2, 1) := by decide +kernel
theorem dX6_hold_20 : decode cX6_hold 20 = .ok (.invokevirtual 86, 3) := by decide +kernel
theorem dX6_hold_23 : decode cX6_hold 23 = .ok (.ifCond .ne 10, 3) := by decide +kernel
theorem dX6_hold_26 : decode cX6_hold 26 = .ok (.aload_n 0, 1) := by decide +kernel
theorem dX6_hold_27 : decode cX6_hold 27 = .ok (.ldc 64, 2) := by decide +kernel
theorem dX6_hold_29 : decode cX6_hold 29 = .ok (.invokevirtual 65, 3) := by decide +kernel
theorem dX6_hold_32 : decode cX6_hold 32 = .ok (.ireturn, 1) := by decide +kernel
theorem dX6_hold_33 : decode cX6_hold 33 = .ok (.aload_n 0, 1) := by decide +kernel
theorem dX6_hold_34 : decode cX6_hold 34 = .ok (.getfield 12, 3) := by decide +kernel
theorem dX6_hold_37 : decode cX6_hold 37 = .ok (.getfield 232, 3) := by decide +kernel
theorem dX6_hold_40 : decode cX6_hold 40 = .ok (.iload_n 1, 1) := by decide +kernel
theorem dX6_hold_41 : decode cX6_hold 41 = .ok (.iload_n 2, 1) := by decide +kernel
theorem dX6_hold_42 : decode cX6_hold 42 = .ok (.iastore, 1) := by decide +kernel
theorem dX6_hold_43 : decode cX6_hold 43 = .ok (.iconst 1, 1) := by decide +kernel
theorem dX6_hold_44 : decode cX6_hold 44 = .ok (.ireturn, 1) := by decide +kernel
theorem dX6_as_0 : decode cX6_as 0 = .ok (.iload_n 1, 1) := by decide +kernel
theorem dX6_as_1 : decode cX6_as 1 = .ok (.iconst 0, 1) := by decide +kernel
theorem dX6_as_2 : decode cX6_as 2 = .ok (.bipush 9, 2) := by decide +kernel
theorem dX6_as_4 : decode cX6_as 4 = .ok (.invokestatic 60, 3) := by decide +kernel
theorem dX6_as_7 : decode cX6_as 7 = .ok (.ifCond .eq 10, 3) := by decide +kernel
theorem dX6_as_10 : decode cX6_as 10 = .ok (.iload_n 2, 1) := by decide +kernel
theorem dX6_as_11 : decode cX6_as 11 = .ok (.invokestatic 72, 3) := by decide +kernel
theorem dX6_as_14 : decode cX6_as 14 = .ok (.ifCond .ne 10, 3) := by decide +kernel
theorem dX6_as_17 : decode cX6_as 17 = .ok (.aload_n 0, 1) := by decide +kernel
theorem dX6_as_18 : decode cX6_as 18 = .ok (.ldc 64, 2) := by decide +kernel
theorem dX6_as_20 : decode cX6_as 20 = .ok (.invokevirtual 65, 3) := by decide +kernel
theorem dX6_as_23 : decode cX6_as 23 = .ok (.ireturn, 1) := by decide +kernel
theorem dX6_as_24 : decode cX6_as 24 = .ok (.aload_n 0, 1) := by decide +kernel
theorem dX6_as_25 : decode cX6_as 25 = .ok (.getfield 12, 3) := by decide +kernel
theorem dX6_as_28 : decode cX6_as 28 = .ok (.getfield 232, 3) := by decide +kernel
theorem dX6_as_31 : decode cX6_as 31 = .ok (.iload_n 1, 1) := by decide +kernel
theorem dX6_as_32 : decode cX6_as 32 = .ok (.iaload, 1) := by decide +kernel
theorem dX6_as_33 : decode cX6_as 33 = .ok (.istore_n 3, 1) := by decide +kernel
theorem dX6_as_34 : decode cX6_as 34 = .ok (.aload_n 0, 1) := by decide +kernel
theorem dX6_as_35 : decode cX6_as 35 = .ok (.getfield 12, 3) := by decide +kernel
theorem dX6_as_38 : decode cX6_as 38 = .ok (.iload_n 3, 1) := by decide +kernel
theorem dX6_as_39 : decode cX6_as 39 = .ok (.invokevirtual 86, 3) := by decide +kernel
theorem dX6_as_42 : decode cX6_as 42 = .ok (.ifCond .ne 10, 3) := by decide +kernel
theorem dX6_as_45 : decode cX6_as 45 = .ok (.aload_n 0, 1) := by decide +kernel
theorem dX6_as_46 : decode cX6_as 46 = .ok (.ldc 235, 2) := by decide +kernel
theorem dX6_as_48 : decode cX6_as 48 = .ok (.invokevirtual 65, 3) := by decide +kernel
theorem dX6_as_51 : decode cX6_as 51 = .ok (.ireturn, 1) := by decide +kernel
theorem dX6_as_52 : decode cX6_as 52 = .ok (.aload_n 0, 1) := by decide +kernel
theorem dX6_as_53 : decode cX6_as 53 = .ok (.getfield 12, 3) := by decide +kernel
theorem dX6_as_56 : decode cX6_as 56 = .ok (.getfield 89, 3) := by decide +kernel
theorem dX6_as_59 : decode cX6_as 59 = .ok (.iload_n 3, 1) := by decide +kernel
theorem dX6_as_60 : decode cX6_as 60 = .ok (.iaload, 1) := by decide +kernel
theorem dX6_as_61 : decode cX6_as 61 = .ok (.iload_n 2, 1) := by decide +kernel
theorem dX6_as_62 : decode cX6_as 62 = .ok (.invokestatic 236, 3) := by decide +kernel
theorem dX6_as_65 : decode cX6_as 65 = .ok (.ifCond .eq 7, 3) := by decide +kernel
theorem dX6_as_68 : decode cX6_as 68 = .ok (.iload_n 3, 1) := by decide +kernel
theorem dX6_as_69 : decode cX6_as 69 = .ok (.goto 9, 3) := by decide +kernel
theorem dX6_as_72 : decode cX6_as 72 = .ok (.aload_n 0, 1) := by decide +kernel
theorem dX6_as_73 : decode cX6_as 73 = .ok (.ldc 239, 2) := by decide +kernel
theorem dX6_as_75 : decode cX6_as 75 = .ok (.invokevirtual 65, 3) := by decide +kernel
theorem dX6_as_78 : decode cX6_as 78 = .ok (.ireturn, 1) := by decide +kernel
theorem dX6_sheet_0 : decode cX6_sheet 0 = .ok (.iload_n 1, 1) := by decide +kernel
theorem dX6_sheet_1 : decode cX6_sheet 1 = .ok (.invokestatic 240, 3) := by decide +kernel
theorem dX6_sheet_4 : decode cX6_sheet 4 = .ok (.ifCond .eq 25, 3) := by decide +kernel
theorem dX6_sheet_7 : decode cX6_sheet 7 = .ok (.iload_n 2, 1) := by decide +kernel
theorem dX6_sheet_8 : decode cX6_sheet 8 = .ok (.ifCond .eq 28, 3) := by decide +kernel
theorem dX6_sheet_11 : decode cX6_sheet 11 = .ok (.iload_n 2, 1) := by decide +kernel
theorem dX6_sheet_12 : decode cX6_sheet 12 = .ok (.bipush 8, 2) := by decide +kernel
theorem dX6_sheet_14 : decode cX6_sheet 14 = .ok (.if_icmp .eq 22, 3) := by decide +kernel
theorem dX6_sheet_17 : decode cX6_sheet 17 = .ok (.iload_n 2, 1) := by decide +kernel
theorem dX6_sheet_18 : decode cX6_sheet 18 = .ok (.bipush 16, 2) := by decide +kernel
theorem dX6_sheet_20 : decode cX6_sheet 20 = .ok (.if_icmp .eq 16, 3) := by decide +kernel
theorem dX6_sheet_23 : decode cX6_sheet 23 = .ok (.iload_n 2, 1) := by decide +kernel
theorem dX6_sheet_24 : decode cX6_sheet 24 = .ok (.bipush 32, 2) := by decide +kernel
theorem dX6_sheet_26 : decode cX6_sheet 26 = .ok (.if_icmp .eq 10, 3) := by decide +kernel
theorem dX6_sheet_29 : decode cX6_sheet 29 = .ok (.aload_n 0, 1) := by decide +kernel
theorem dX6_sheet_30 : decode cX6_sheet 30 = .ok (.ldc 64, 2) := by decide +kernel
theorem dX6_sheet_32 : decode cX6_sheet 32 = .ok (.invokevirtual 65, 3) := by decide +kernel
theorem dX6_sheet_35 : decode cX6_sheet 35 = .ok (.ireturn, 1) := by decide +kernel
theorem dX6_sheet_36 : decode cX6_sheet 36 = .ok (.iload_n 3, 1) := by decide +kernel
theorem dX6_sheet_37 : decode cX6_sheet 37 = .ok (.ifCond .ge 10, 3) := by decide +kernel
theorem dX6_sheet_40 : decode cX6_sheet 40 = .ok (.aload_n 0, 1) := by decide +kernel
theorem dX6_sheet_41 : decode cX6_sheet 41 = .ok (.ldc 243, 2) := by decide +kernel
theorem dX6_sheet_43 : decode cX6_sheet 43 = .ok (.invokevirtual 65, 3) := by decide +kernel
theorem dX6_sheet_46 : decode cX6_sheet 46 = .ok (.ireturn, 1) := by decide +kernel
theorem dX6_sheet_47 : decode cX6_sheet 47 = .ok (.iload_n 3, 1) := by decide +kernel
theorem dX6_sheet_48 : decode cX6_sheet 48 = .ok (.bipush 40, 2) := by decide +kernel
theorem dX6_sheet_50 : decode cX6_sheet 50 = .ok (.if_icmp .le 12, 3) := by decide +kernel
theorem dX6_sheet_53 : decode cX6_sheet 53 = .ok (.aload_n 0, 1) := by decide +kernel
theorem dX6_sheet_54 : decode cX6_sheet 54 = .ok (.ldc 64, 2) := by decide +kernel
theorem dX6_sheet_56 : decode cX6_sheet 56 = .ok (.invokevirtual 65, 3) := by decide +kernel
theorem dX6_sheet_59 : decode cX6_sheet 59 = .ok (.goto 14, 3) := by decide +kernel
theorem dX6_sheet_62 : decode cX6_sheet 62 = .ok (.aload_n 0, 1) := by decide +kernel
theorem dX6_sheet_63 : decode cX6_sheet 63 = .ok (.getfield 47, 3) := by decide +kernel
theorem dX6_sheet_66 : decode cX6_sheet 66 = .ok (.iload_n 1, 1) := by decide +kernel
theorem dX6_sheet_67 : decode cX6_sheet 67 = .ok (.aaload, 1) := by decide +kernel
theorem dX6_sheet_68 : decode cX6_sheet 68 = .ok (.iload_n 2, 1) := by decide +kernel
theorem dX6_sheet_69 : decode cX6_sheet 69 = .ok (.iload_n 3, 1) := by decide +kernel
theorem dX6_sheet_70 : decode cX6_sheet 70 = .ok (.invokevirtual 244, 3) := by decide +kernel
theorem dX6_sheet_73 : decode cX6_sheet 73 = .ok (.ireturn, 1) := by decide +kernel
theorem dX6_write_0 : decode cX6_write 0 = .ok (.iload_n 1, 1) := by decide +kernel
theorem dX6_write_1 : decode cX6_write 1 = .ok (.invokestatic 240, 3) := by decide +kernel
theorem dX6_write_4 : decode cX6_write 4 = .ok (.ifCond .ne 10, 3) := by decide +kernel
theorem dX6_write_7 : decode cX6_write 7 = .ok (.aload_n 0, 1) := by decide +kernel
theorem dX6_write_8 : decode cX6_write 8 = .ok (.ldc 64, 2) := by decide +kernel
theorem dX6_write_10 : decode cX6_write 10 = .ok (.invokevirtual 65, 3) := by decide +kernel
theorem dX6_write_13 : decode cX6_write 13 = .ok (.ireturn, 1) := by decide +kernel
theorem dX6_write_14 : decode cX6_write 14 = .ok (.aload_n 0, 1) := by decide +kernel
theorem dX6_write_15 : decode cX6_write 15 = .ok (.getfield 47, 3) := by decide +kernel
theorem dX6_write_18 : decode cX6_write 18 = .ok (.iload_n 1, 1) := by decide +kernel
theorem dX6_write_19 : decode cX6_write 19 = .ok (.aaload, 1) := by decide +kernel
theorem dX6_write_20 : decode cX6_write 20 = .ok (.invokevirtual 247, 3) := by decide +kernel
theorem dX6_write_23 : decode cX6_write 23 = .ok (.ifCond .eq 10, 3) := by decide +kernel
theorem dX6_write_26 : decode cX6_write 26 = .ok (.aload_n 0, 1) := by decide +kernel
theorem dX6_write_27 : decode cX6_write 27 = .ok (.ldc 235, 2) := by decide +kernel
theorem dX6_write_29 : decode cX6_write 29 = .ok (.invokevirtual 65, 3) := by decide +kernel
theorem dX6_write_32 : decode cX6_write 32 = .ok (.ireturn, 1) := by decide +kernel
theorem dX6_write_33 : decode cX6_write 33 = .ok (.iload_n 2, 1) := by decide +kernel
theorem dX6_write_34 : decode cX6_write 34 = .ok (.iconst 0, 1) := by decide +kernel
theorem dX6_write_35 : decode cX6_write 35 = .ok (.aload_n 0, 1) := by decide +kernel
theorem dX6_write_36 : decode cX6_write 36 = .ok (.getfield 47, 3) := by decide +kernel
theorem dX6_write_39 : decode cX6_write 39 = .ok (.iload_n 1, 1) := by decide +kernel
theorem dX6_write_40 : decode cX6_write 40 = .ok (.aaload, 1) := by decide +kernel
theorem dX6_write_41 : decode cX6_write 41 = .ok (.getfield 251, 3) := by decide +kernel
theorem dX6_write_44 : decode cX6_write 44 = .ok (.iconst 1, 1) := by decide +kernel
theorem dX6_write_45 : decode cX6_write 45 = .ok (.isub, 1) := by decide +kernel
theorem dX6_write_46 : decode cX6_write 46 = .ok (.invokestatic 60, 3) := by decide +kernel
theorem dX6_write_49 : decode cX6_write 49 = .ok (.ifCond .ne 10, 3) := by decide +kernel
theorem dX6_write_52 : decode cX6_write 52 = .ok (.aload_n 0, 1) := by decide +kernel
theorem dX6_write_53 : decode cX6_write 53 = .ok (.ldc 64, 2) := by decide +kernel
theorem dX6_write_55 : decode cX6_write 55 = .ok (.invokevirtual 65, 3) := by decide +kernel
theorem dX6_write_58 : decode cX6_write 58 = .ok (.ireturn, 1) := by decide +kernel
theorem dX6_write_59 : decode cX6_write 59 = .ok (.aload_n 0, 1) := by decide +kernel
theorem dX6_write_60 : decode cX6_write 60 = .ok (.getfield 47, 3) := by decide +kernel
theorem dX6_write_63 : decode cX6_write 63 = .ok (.iload_n 1, 1) := by decide +kernel
theorem dX6_write_64 : decode cX6_write 64 = .ok (.aaload, 1) := by decide +kernel
theorem dX6_write_65 : decode cX6_write 65 = .ok (.iload_n 2, 1) := by decide +kernel
theorem dX6_write_66 : decode cX6_write 66 = .ok (.iload_n 3, 1) := by decide +kernel
theorem dX6_write_67 : decode cX6_write 67 = .ok (.invokevirtual 254, 3) := by decide +kernel
theorem dX6_write_70 : decode cX6_write 70 = .ok (.iconst 1, 1) := by decide +kernel
theorem dX6_write_71 : decode cX6_write 71 = .ok (.ireturn, 1) := by decide +kernel
theorem dX6_copy_0 : decode cX6_copy 0 = .ok (.iload_n 1, 1) := by decide +kernel
theorem dX6_copy_1 : decode cX6_copy 1 = .ok (.invokestatic 240, 3) := by decide +kernel
theorem dX6_copy_4 : decode cX6_copy 4 = .ok (.ifCond .eq 10, 3) := by decide +kernel
theorem dX6_copy_7 : decode cX6_copy 7 = .ok (.iload_n 3, 1) := by decide +kernel
theorem dX6_copy_8 : decode cX6_copy 8 = .ok (.invokestatic 240, 3) := by decide +kernel
theorem dX6_copy_11 : decode cX6_copy 11 = .ok (.ifCond .ne 10, 3) := by decide +kernel
theorem dX6_copy_14 : decode cX6_copy 14 = .ok (.aload_n 0, 1) := by decide +kernel
theorem dX6_copy_15 : decode cX6_copy 15 = .ok (.ldc 64, 2) := by decide +kernel
theorem dX6_copy_17 : decode cX6_copy 17 = .ok (.invokevirtual 65, 3) := by decide +kernel
theorem dX6_copy_20 : decode cX6_copy 20 = .ok (.ireturn, 1) := by decide +kernel
theorem dX6_copy_21 : decode cX6_copy 21 = .ok (.aload_n 0, 1) := by decide +kernel
theorem dX6_copy_22 : decode cX6_copy 22 = .ok (.getfield 47, 3) := by decide +kernel
theorem dX6_copy_25 : decode cX6_copy 25 = .ok (.iload_n 1, 1) := by decide +kernel
theorem dX6_copy_26 : decode cX6_copy 26 = .ok (.aaload, 1) := by decide +kernel
theorem dX6_copy_27 : decode cX6_copy 27 = .ok (.invokevirtual 247, 3) := by decide +kernel
theorem dX6_copy_30 : decode cX6_copy 30 = .ok (.ifCond .ne 15, 3) := by decide +kernel
theorem dX6_copy_33 : decode cX6_copy 33 = .ok (.aload_n 0, 1) := by decide +kernel
theorem dX6_copy_34 : decode cX6_copy 34 = .ok (.getfield 47, 3) := by decide +kernel
theorem dX6_copy_37 : decode cX6_copy 37 = .ok (.iload_n 3, 1) := by decide +kernel
theorem dX6_copy_38 : decode cX6_copy 38 = .ok (.aaload, 1) := by decide +kernel
theorem dX6_copy_39 : decode cX6_copy 39 = .ok (.invokevirtual 247, 3) := by decide +kernel
theorem dX6_copy_42 : decode cX6_copy 42 = .ok (.ifCond .eq 10, 3) := by decide +kernel
theorem dX6_copy_45 : decode cX6_copy 45 = .ok (.aload_n 0, 1) := by decide +kernel
theorem dX6_copy_46 : decode cX6_copy 46 = .ok (.ldc 235, 2) := by decide +kernel
theorem dX6_copy_48 : decode cX6_copy 48 = .ok (.invokevirtual 65, 3) := by decide +kernel
theorem dX6_copy_51 : decode cX6_copy 51 = .ok (.ireturn, 1) := by decide +kernel
theorem dX6_copy_52 : decode cX6_copy 52 = .ok (.aload_n 0, 1) := by decide +kernel
theorem dX6_copy_53 : decode cX6_copy 53 = .ok (.getfield 47, 3) := by decide +kernel
theorem dX6_copy_56 : decode cX6_copy 56 = .ok (.iload_n 1, 1) := by decide +kernel
theorem dX6_copy_57 : decode cX6_copy 57 = .ok (.aaload, 1) := by decide +kernel
theorem dX6_copy_58 : decode cX6_copy 58 = .ok (.getfield 258, 3) := by decide +kernel
theorem dX6_copy_61 : decode cX6_copy 61 = .ok (.aload_n 0, 1) := by decide +kernel
theorem dX6_copy_62 : decode cX6_copy 62 = .ok (.getfield 47, 3) := by decide +kernel
theorem dX6_copy_65 : decode cX6_copy 65 = .ok (.iload_n 3, 1) := by decide +kernel
theorem dX6_copy_66 : decode cX6_copy 66 = .ok (.aaload, 1) := by decide +kernel
theorem dX6_copy_67 : decode cX6_copy 67 = .ok (.getfield 258, 3) := by decide +kernel
theorem dX6_copy_70 : decode cX6_copy 70 = .ok (.if_icmp .eq 10, 3) := by decide +kernel
theorem dX6_copy_73 : decode cX6_copy 73 = .ok (.aload_n 0, 1) := by decide +kernel
theorem dX6_copy_74 : decode cX6_copy 74 = .ok (.ldc 239, 2) := by decide +kernel
theorem dX6_copy_76 : decode cX6_copy 76 = .ok (.invokevirtual 65, 3) := by decide +kernel
theorem dX6_copy_79 : decode cX6_copy 79 = .ok (.ireturn, 1) := by decide +kernel
theorem dX6_copy_80 : decode cX6_copy 80 = .ok (.aload_n 0, 1) := by decide +kernel
theorem dX6_copy_81 : decode cX6_copy 81 = .ok (.getfield 47, 3) := by decide +kernel
theorem dX6_copy_84 : decode cX6_copy 84 = .ok (.iload_n 1, 1) := by decide +kernel
theorem dX6_copy_85 : decode cX6_copy 85 = .ok (.aaload, 1) := by decide +kernel
theorem dX6_copy_86 : decode cX6_copy 86 = .ok (.iload_n 2, 1) := by decide +kernel
theorem dX6_copy_87 : decode cX6_copy 87 = .ok (.iload 5, 2) := by decide +kernel
theorem dX6_copy_89 : decode cX6_copy 89 = .ok (.invokevirtual 261, 3) := by decide +kernel
theorem dX6_copy_92 : decode cX6_copy 92 = .ok (.ifCond .eq 19, 3) := by decide +kernel
theorem dX6_copy_95 : decode cX6_copy 95 = .ok (.aload_n 0, 1) := by decide +kernel
theorem dX6_copy_96 : decode cX6_copy 96 = .ok (.getfield 47, 3) := by decide +kernel
theorem dX6_copy_99 : decode cX6_copy 99 = .ok (.iload_n 3, 1) := by decide +kernel
theorem dX6_copy_100 : decode cX6_copy 100 = .ok (.aaload, 1) := by decide +kernel
theorem dX6_copy_101 : decode cX6_copy 101 = .ok (.iload 4, 2) := by decide +kernel
theorem dX6_copy_103 : decode cX6_copy 103 = .ok (.iload 5, 2) := by decide +kernel
theorem dX6_copy_105 : decode cX6_copy 105 = .ok (.invokevirtual 261, 3) := by decide +kernel
theorem dX6_copy_108 : decode cX6_copy 108 = .ok (.ifCond .ne 10, 3) := by decide +kernel
theorem dX6_copy_111 : decode cX6_copy 111 = .ok (.aload_n 0, 1) := by decide +kernel
theorem dX6_copy_112 : decode cX6_copy 112 = .ok (.ldc 64, 2) := by decide +kernel
theorem dX6_copy_114 : decode cX6_copy 114 = .ok (.invokevirtual 65, 3) := by decide +kernel
theorem dX6_copy_117 : decode cX6_copy 117 = .ok (.ireturn, 1) := by decide +kernel
theorem dX6_copy_118 : decode cX6_copy 118 = .ok (.aload_n 0, 1) := by decide +kernel
theorem dX6_copy_119 : decode cX6_copy 119 = .ok (.getfield 47, 3) := by decide +kernel
theorem dX6_copy_122 : decode cX6_copy 122 = .ok (.iload_n 1, 1) := by decide +kernel
theorem dX6_copy_123 : decode cX6_copy 123 = .ok (.aaload, 1) := by decide +kernel
theorem dX6_copy_124 : decode cX6_copy 124 = .ok (.getfield 264, 3) := by decide +kernel
theorem dX6_copy_127 : decode cX6_copy 127 = .ok (.iload_n 2, 1) := by decide +kernel
theorem dX6_copy_128 : decode cX6_copy 128 = .ok (.aload_n 0, 1) := by decide +kernel
theorem dX6_copy_129 : decode cX6_copy 129 = .ok (.getfield 47, 3) := by decide +kernel
theorem dX6_copy_132 : decode cX6_copy 132 = .ok (.iload_n 3, 1) := by decide +kernel
theorem dX6_copy_133 : decode cX6_copy 133 = .ok (.aaload, 1) := by decide +kernel
theorem dX6_copy_134 : decode cX6_copy 134 = .ok (.getfield 264, 3) := by decide +kernel
theorem dX6_copy_137 : decode cX6_copy 137 = .ok (.iload 4, 2) := by decide +kernel
theorem dX6_copy_139 : decode cX6_copy 139 = .ok (.iload 5, 2) := by decide +kernel
theorem dX6_copy_141 : decode cX6_copy 141 = .ok (.invokestatic 267, 3) := by decide +kernel
theorem dX6_copy_144 : decode cX6_copy 144 = .ok (.iload 5, 2) := by decide +kernel
theorem dX6_copy_146 : decode cX6_copy 146 = .ok (.ireturn, 1) := by decide +kernel
theorem dX6_load_0 : decode cX6_load 0 = .ok (.iload_n 1, 1) := by decide +kernel
theorem dX6_load_1 : decode cX6_load 1 = .ok (.invokestatic 240, 3) := by decide +kernel
theorem dX6_load_4 : decode cX6_load 4 = .ok (.ifCond .ne 10, 3) := by decide +kernel
theorem dX6_load_7 : decode cX6_load 7 = .ok (.aload_n 0, 1) := by decide +kernel
theorem dX6_load_8 : decode cX6_load 8 = .ok (.ldc 64, 2) := by decide +kernel
theorem dX6_load_10 : decode cX6_load 10 = .ok (.invokevirtual 65, 3) := by decide +kernel
theorem dX6_load_13 : decode cX6_load 13 = .ok (.ireturn, 1) := by decide +kernel
theorem dX6_load_14 : decode cX6_load 14 = .ok (.aload_n 0, 1) := by decide +kernel
theorem dX6_load_15 : decode cX6_load 15 = .ok (.getfield 47, 3) := by decide +kernel
theorem dX6_load_18 : decode cX6_load 18 = .ok (.iload_n 1, 1) := by decide +kernel
theorem dX6_load_19 : decode cX6_load 19 = .ok (.aaload, 1) := by decide +kernel
theorem dX6_load_20 : decode cX6_load 20 = .ok (.invokevirtual 247, 3) := by decide +kernel
theorem dX6_load_23 : decode cX6_load 23 = .ok (.ifCond .eq 10, 3) := by decide +kernel
theorem dX6_load_26 : decode cX6_load 26 = .ok (.aload_n 0, 1) := by decide +kernel
theorem dX6_load_27 : decode cX6_load 27 = .ok (.ldc 235, 2) := by decide +kernel
theorem dX6_load_29 : decode cX6_load 29 = .ok (.invokevirtual 65, 3) := by decide +kernel
theorem dX6_load_32 : decode cX6_load 32 = .ok (.ireturn, 1) := by decide +kernel
theorem dX6_load_33 : decode cX6_load 33 = .ok (.aload_n 0, 1) := by decide +kernel
theorem dX6_load_34 : decode cX6_load 34 = .ok (.getfield 47, 3) := by decide +kernel
theorem dX6_load_37 : decode cX6_load 37 = .ok (.iload_n 1, 1) := by decide +kernel
theorem dX6_load_38 : decode cX6_load 38 = .ok (.aaload, 1) := by decide +kernel
theorem dX6_load_39 : decode cX6_load 39 = .ok (.getfield 251, 3) := by decide +kernel
theorem dX6_load_42 : decode cX6_load 42 = .ok (.aload_n 0, 1) := by decide +kernel
theorem dX6_load_43 : decode cX6_load 43 = .ok (.getfield 12, 3) := by decide +kernel
theorem dX6_load_46 : decode cX6_load 46 = .ok (.getfield 126, 3) := by decide +kernel
theorem dX6_load_49 : decode cX6_load 49 = .ok (.invokestatic 273, 3) := by decide +kernel
theorem dX6_load_52 : decode cX6_load 52 = .ok (.istore_n 2, 1) := by decide +kernel
theorem dX6_load_53 : decode cX6_load 53 = .ok (.iconst 0, 1) := by decide +kernel
theorem dX6_load_54 : decode cX6_load 54 = .ok (.istore_n 3, 1) := by decide +kernel
theorem dX6_load_55 : decode cX6_load 55 = .ok (.iload_n 3, 1) := by decide +kernel
theorem dX6_load_56 : decode cX6_load 56 = .ok (.iload_n 2, 1) := by decide +kernel
theorem dX6_load_57 : decode cX6_load 57 = .ok (.if_icmp .ge 62, 3) := by decide +kernel
theorem dX6_load_60 : decode cX6_load 60 = .ok (.aload_n 0, 1) := by decide +kernel
theorem dX6_load_61 : decode cX6_load 61 = .ok (.getfield 47, 3) := by decide +kernel
theorem dX6_load_64 : decode cX6_load 64 = .ok (.iload_n 1, 1) := by decide +kernel
theorem dX6_load_65 : decode cX6_load 65 = .ok (.aaload, 1) := by decide +kernel
theorem dX6_load_66 : decode cX6_load 66 = .ok (.getfield 264, 3) := by decide +kernel
theorem dX6_load_69 : decode cX6_load 69 = .ok (.iload_n 3, 1) := by decide +kernel
theorem dX6_load_70 : decode cX6_load 70 = .ok (.iaload, 1) := by decide +kernel
theorem dX6_load_71 : decode cX6_load 71 = .ok (.istore 4, 2) := by decide +kernel
theorem dX6_load_73 : decode cX6_load 73 = .ok (.iload 4, 2) := by decide +kernel
theorem dX6_load_75 : decode cX6_load 75 = .ok (.iconst (-1), 1) := by decide +kernel
theorem dX6_load_76 : decode cX6_load 76 = .ok (.if_icmp .eq 11, 3) := by decide +kernel
theorem dX6_load_79 : decode cX6_load 79 = .ok (.iload 4, 2) := by decide +kernel
theorem dX6_load_81 : decode cX6_load 81 = .ok (.invokestatic 56, 3) := by decide +kernel
theorem dX6_load_84 : decode cX6_load 84 = .ok (.ifCond .eq 16, 3) := by decide +kernel
theorem dX6_load_87 : decode cX6_load 87 = .ok (.aload_n 0, 1) := by decide +kernel
theorem dX6_load_88 : decode cX6_load 88 = .ok (.getfield 12, 3) := by decide +kernel
theorem dX6_load_91 : decode cX6_load 91 = .ok (.iload_n 3, 1) := by decide +kernel
theorem dX6_load_92 : decode cX6_load 92 = .ok (.iload 4, 2) := by decide +kernel
theorem dX6_load_94 : decode cX6_load 94 = .ok (.invokevirtual 148, 3) := by decide +kernel
theorem dX6_load_97 : decode cX6_load 97 = .ok (.ifCond .ne 5, 3) := by decide +kernel
theorem dX6_load_100 : decode cX6_load 100 = .ok (.iload_n 3, 1) := by decide +kernel
theorem dX6_load_101 : decode cX6_load 101 = .ok (.ireturn, 1) := by decide +kernel
theorem dX6_load_102 : decode cX6_load 102 = .ok (.aload_n 0, 1) := by decide +kernel
theorem dX6_load_103 : decode cX6_load 103 = .ok (.getfield 12, 3) := by decide +kernel
theorem dX6_load_106 : decode cX6_load 106 = .ok (.getfield 136, 3) := by decide +kernel
theorem dX6_load_109 : decode cX6_load 109 = .ok (.iload_n 3, 1) := by decide +kernel
theorem dX6_load_110 : decode cX6_load 110 = .ok (.iload 4, 2) := by decide +kernel
theorem dX6_load_112 : decode cX6_load 112 = .ok (.iastore, 1) := by decide +kernel
theorem dX6_load_113 : decode cX6_load 113 = .ok (.iinc 3 1, 3) := by decide +kernel
theorem dX6_load_116 : decode cX6_load 116 = .ok (.goto (-61), 3) := by decide +kernel
theorem dX6_load_119 : decode cX6_load 119 = .ok (.iload_n 2, 1) := by decide +kernel
theorem dX6_load_120 : decode cX6_load 120 = .ok (.ireturn, 1) := by decide +kernel
theorem dX6_judge_0 : decode cX6_judge 0 = .ok (.iload_n 1, 1) := by decide +kernel
theorem dX6_judge_1 : decode cX6_judge 1 = .ok (.invokestatic 240, 3) := by decide +kernel
theorem dX6_judge_4 : decode cX6_judge 4 = .ok (.ifCond .ne 10, 3) := by decide +kernel
theorem dX6_judge_7 : decode cX6_judge 7 = .ok (.aload_n 0, 1) := by decide +kernel
theorem dX6_judge_8 : decode cX6_judge 8 = .ok (.ldc 64, 2) := by decide +kernel
theorem dX6_judge_10 : decode cX6_judge 10 = .ok (.invokevirtual 65, 3) := by decide +kernel
theorem dX6_judge_13 : decode cX6_judge 13 = .ok (.ireturn, 1) := by decide +kernel
theorem dX6_judge_14 : decode cX6_judge 14 = .ok (.aload_n 0, 1) := by decide +kernel
theorem dX6_judge_15 : decode cX6_judge 15 = .ok (.getfield 47, 3) := by decide +kernel
theorem dX6_judge_18 : decode cX6_judge 18 = .ok (.iload_n 1, 1) := by decide +kernel
theorem dX6_judge_19 : decode cX6_judge 19 = .ok (.aaload, 1) := by decide +kernel
theorem dX6_judge_20 : decode cX6_judge 20 = .ok (.invokevirtual 247, 3) := by decide +kernel
theorem dX6_judge_23 : decode cX6_judge 23 = .ok (.ifCond .eq 10, 3) := by decide +kernel
theorem dX6_judge_26 : decode cX6_judge 26 = .ok (.aload_n 0, 1) := by decide +kernel
theorem dX6_judge_27 : decode cX6_judge 27 = .ok (.ldc 235, 2) := by decide +kernel
theorem dX6_judge_29 : decode cX6_judge 29 = .ok (.invokevirtual 65, 3) := by decide +kernel
theorem dX6_judge_32 : decode cX6_judge 32 = .ok (.ireturn, 1) := by decide +kernel
theorem dX6_judge_33 : decode cX6_judge 33 = .ok (.iload_n 2, 1) := by decide +kernel
theorem dX6_judge_34 : decode cX6_judge 34 = .ok (.iconst 0, 1) := by decide +kernel
theorem dX6_judge_35 : decode cX6_judge 35 = .ok (.bipush 60, 2) := by decide +kernel
theorem dX6_judge_37 : decode cX6_judge 37 = .ok (.invokestatic 60, 3) := by decide +kernel
theorem dX6_judge_40 : decode cX6_judge 40 = .ok (.ifCond .ne 10, 3) := by decide +kernel
theorem dX6_judge_43 : decode cX6_judge 43 = .ok (.aload_n 0, 1) := by decide +kernel
theorem dX6_judge_44 : decode cX6_judge 44 = .ok (.ldc 64, 2) := by decide +kernel
theorem dX6_judge_46 : decode cX6_judge 46 = .ok (.invokevirtual 65, 3) := by decide +kernel
theorem dX6_judge_49 : decode cX6_judge 49 = .ok (.ireturn, 1) := by decide +kernel
theorem dX6_judge_50 : decode cX6_judge 50 = .ok (.aload_n 0, 1) := by decide +kernel
theorem dX6_judge_51 : decode cX6_judge 51 = .ok (.iload_n 2, 1) := by decide +kernel
theorem dX6_judge_52 : decode cX6_judge 52 = .ok (.invokevirtual 156, 3) := by decide +kernel
theorem dX6_judge_55 : decode cX6_judge 55 = .ok (.ifCond .eq 10, 3) := by decide +kernel
theorem dX6_judge_58 : decode cX6_judge 58 = .ok (.aload_n 0, 1) := by decide +kernel
theorem dX6_judge_59 : decode cX6_judge 59 = .ok (.ldc 151, 2) := by decide +kernel
theorem dX6_judge_61 : decode cX6_judge 61 = .ok (.invokevirtual 65, 3) := by decide +kernel
theorem dX6_judge_64 : decode cX6_judge 64 = .ok (.ireturn, 1) := by decide +kernel
theorem dX6_judge_65 : decode cX6_judge 65 = .ok (.aload_n 0, 1) := by decide +kernel
theorem dX6_judge_66 : decode cX6_judge 66 = .ok (.iload_n 2, 1) := by decide +kernel
theorem dX6_judge_67 : decode cX6_judge 67 = .ok (.invokevirtual 166, 3) := by decide +kernel
theorem dX6_judge_70 : decode cX6_judge 70 = .ok (.aload_n 0, 1) := by decide +kernel
theorem dX6_judge_71 : decode cX6_judge 71 = .ok (.getfield 47, 3) := by decide +kernel
theorem dX6_judge_74 : decode cX6_judge 74 = .ok (.iload_n 1, 1) := by decide +kernel
theorem dX6_judge_75 : decode cX6_judge 75 = .ok (.aaload, 1) := by decide +kernel
theorem dX6_judge_76 : decode cX6_judge 76 = .ok (.getfield 251, 3) := by decide +kernel
theorem dX6_judge_79 : decode cX6_judge 79 = .ok (.aload_n 0, 1) := by decide +kernel
theorem dX6_judge_80 : decode cX6_judge 80 = .ok (.getfield 19, 3) := by decide +kernel
theorem dX6_judge_83 : decode cX6_judge 83 = .ok (.getfield 77, 3) := by decide +kernel
theorem dX6_judge_86 : decode cX6_judge 86 = .ok (.invokestatic 273, 3) := by decide +kernel
theorem dX6_judge_89 : decode cX6_judge 89 = .ok (.istore_n 3, 1) := by decide +kernel
theorem dX6_judge_90 : decode cX6_judge 90 = .ok (.iconst 0, 1) := by decide +kernel
theorem dX6_judge_91 : decode cX6_judge 91 = .ok (.istore 4, 2) := by decide +kernel
theorem dX6_judge_93 : decode cX6_judge 93 = .ok (.iload 4, 2) := by decide +kernel
theorem dX6_judge_95 : decode cX6_judge 95 = .ok (.iload_n 3, 1) := by decide +kernel
theorem dX6_judge_96 : decode cX6_judge 96 = .ok (.if_icmp .ge 34, 3) := by decide +kernel
theorem dX6_judge_99 : decode cX6_judge 99 = .ok (.aload_n 0, 1) := by decide +kernel
theorem dX6_judge_100 : decode cX6_judge 100 = .ok (.getfield 47, 3) := by decide +kernel
theorem dX6_judge_103 : decode cX6_judge 103 = .ok (.iload_n 1, 1) := by decide +kernel
theorem dX6_judge_104 : decode cX6_judge 104 = .ok (.aaload, 1) := by decide +kernel
theorem dX6_judge_105 : decode cX6_judge 105 = .ok (.getfield 264, 3) := by decide +kernel
theorem dX6_judge_108 : decode cX6_judge 108 = .ok (.iload 4, 2) := by decide +kernel
theorem dX6_judge_110 : decode cX6_judge 110 = .ok (.iaload, 1) := by decide +kernel
theorem dX6_judge_111 : decode cX6_judge 111 = .ok (.aload_n 0, 1) := by decide +kernel
theorem dX6_judge_112 : decode cX6_judge 112 = .ok (.getfield 19, 3) := by decide +kernel
theorem dX6_judge_115 : decode cX6_judge 115 = .ok (.getfield 95, 3) := by decide +kernel
theorem dX6_judge_118 : decode cX6_judge 118 = .ok (.iload 4, 2) := by decide +kernel
theorem dX6_judge_120 : decode cX6_judge 120 = .ok (.iaload, 1) := by decide +kernel
theorem dX6_judge_121 : decode cX6_judge 121 = .ok (.if_icmp .ne 9, 3) := by decide +kernel
theorem dX6_judge_124 : decode cX6_judge 124 = .ok (.iinc 4 1, 3) := by decide +kernel
theorem dX6_judge_127 : decode cX6_judge 127 = .ok (.goto (-34), 3) := by decide +kernel
theorem dX6_judge_130 : decode cX6_judge 130 = .ok (.iload 4, 2) := by decide +kernel
theorem dX6_judge_132 : decode cX6_judge 132 = .ok (.aload_n 0, 1) := by decide +kernel
theorem dX6_judge_133 : decode cX6_judge 133 = .ok (.getfield 47, 3) := by decide +kernel
theorem dX6_judge_136 : decode cX6_judge 136 = .ok (.iload_n 1, 1) := by decide +kernel
theorem dX6_judge_137 : decode cX6_judge 137 = .ok (.aaload, 1) := by decide +kernel
theorem dX6_judge_138 : decode cX6_judge 138 = .ok (.getfield 251, 3) := by decide +kernel
theorem dX6_judge_141 : decode cX6_judge 141 = .ok (.if_icmp .ne 19, 3) := by decide +kernel
theorem dX6_judge_144 : decode cX6_judge 144 = .ok (.iload 4, 2) := by decide +kernel
theorem dX6_judge_146 : decode cX6_judge 146 = .ok (.aload_n 0, 1) := by decide +kernel
theorem dX6_judge_147 : decode cX6_judge 147 = .ok (.getfield 19, 3) := by decide +kernel
theorem dX6_judge_150 : decode cX6_judge 150 = .ok (.getfield 77, 3) := by decide +kernel
theorem dX6_judge_153 : decode cX6_judge 153 = .ok (.if_icmp .ne 7, 3) := by decide +kernel
theorem dX6_judge_156 : decode cX6_judge 156 = .ok (.iconst 1, 1) := by decide +kernel
theorem dX6_judge_157 : decode cX6_judge 157 = .ok (.goto 4, 3) := by decide +kernel
theorem dX6_judge_160 : decode cX6_judge 160 = .ok (.iconst 0, 1) := by decide +kernel
theorem dX6_judge_161 : decode cX6_judge 161 = .ok (.istore 5, 2) := by decide +kernel
theorem dX6_judge_163 : decode cX6_judge 163 = .ok (.iload 5, 2) := by decide +kernel
theorem dX6_judge_165 : decode cX6_judge 165 = .ok (.ifCond .eq 7, 3) := by decide +kernel
theorem dX6_judge_168 : decode cX6_judge 168 = .ok (.iconst 0, 1) := by decide +kernel
theorem dX6_judge_169 : decode cX6_judge 169 = .ok (.goto 7, 3) := by decide +kernel
theorem dX6_judge_172 : decode cX6_judge 172 = .ok (.iconst 1, 1) := by decide +kernel
theorem dX6_judge_173 : decode cX6_judge 173 = .ok (.iload 4, 2) := by decide +kernel
theorem dX6_judge_175 : decode cX6_judge 175 = .ok (.iadd, 1) := by decide +kernel
theorem dX6_judge_176 : decode cX6_judge 176 = .ok (.ireturn, 1) := by decide +kernel
theorem dX6_image_0 : decode cX6_image 0 = .ok (.aload_n 0, 1) := by decide +kernel
theorem dX6_image_1 : decode cX6_image 1 = .ok (.getfield 16, 3) := by decide +kernel
theorem dX6_image_4 : decode cX6_image 4 = .ok (.aload_n 0, 1) := by decide +kernel
theorem dX6_image_5 : decode cX6_image 5 = .ok (.getfield 12, 3) := by decide +kernel
theorem dX6_image_8 : decode cX6_image 8 = .ok (.invokevirtual 212, 3) := by decide +kernel
theorem dX6_image_11 : decode cX6_image 11 = .ok (.aload_n 0, 1) := by decide +kernel
theorem dX6_image_12 : decode cX6_image 12 = .ok (.iconst 1, 1) := by decide +kernel
theorem dX6_image_13 : decode cX6_image 13 = .ok (.putfield 278, 3) := by decide +kernel
theorem dX6_image_16 : decode cX6_image 16 = .ok (.iconst 1, 1) := by decide +kernel
theorem dX6_image_17 : decode cX6_image 17 = .ok (.ireturn, 1) := by decide +kernel
theorem dX6_undo_0 : decode cX6_undo 0 = .ok (.aload_n 0, 1) := by decide +kernel
theorem dX6_undo_1 : decode cX6_undo 1 = .ok (.getfield 278, 3) := by decide +kernel
theorem dX6_undo_4 : decode cX6_undo 4 = .ok (.ifCond .ne 10, 3) := by decide +kernel
theorem dX6_undo_7 : decode cX6_undo 7 = .ok (.aload_n 0, 1) := by decide +kernel
theorem dX6_undo_8 : decode cX6_undo 8 = .ok (.ldc 182, 2) := by decide +kernel
theorem dX6_undo_10 : decode cX6_undo 10 = .ok (.invokevirtual 65, 3) := by decide +kernel
theorem dX6_undo_13 : decode cX6_undo 13 = .ok (.ireturn, 1) := by decide +kernel
theorem dX6_undo_14 : decode cX6_undo 14 = .ok (.aload_n 0, 1) := by decide +kernel
theorem dX6_undo_15 : decode cX6_undo 15 = .ok (.getfield 12, 3) := by decide +kernel
theorem dX6_undo_18 : decode cX6_undo 18 = .ok (.aload_n 0, 1) := by decide +kernel
theorem dX6_undo_19 : decode cX6_undo 19 = .ok (.getfield 16, 3) := by decide +kernel
theorem dX6_undo_22 : decode cX6_undo 22 = .ok (.invokevirtual 212, 3) := by decide +kernel
theorem dX6_undo_25 : decode cX6_undo 25 = .ok (.aload_n 0, 1) := by decide +kernel
theorem dX6_undo_26 : decode cX6_undo 26 = .ok (.getfield 12, 3) := by decide +kernel
theorem dX6_undo_29 : decode cX6_undo 29 = .ok (.getfield 282, 3) := by decide +kernel
theorem dX6_undo_32 : decode cX6_undo 32 = .ok (.ireturn, 1) := by decide +kernel
theorem dX6_tear_0 : decode cX6_tear 0 = .ok (.aload_n 0, 1) := by decide +kernel
theorem dX6_tear_1 : decode cX6_tear 1 = .ok (.getfield 278, 3) := by decide +kernel
theorem dX6_tear_4 : decode cX6_tear 4 = .ok (.ifCond .eq 7, 3) := by decide +kernel
theorem dX6_tear_7 : decode cX6_tear 7 = .ok (.iconst 1, 1) := by decide +kernel
theorem dX6_tear_8 : decode cX6_tear 8 = .ok (.goto 4, 3) := by decide +kernel
theorem dX6_tear_11 : decode cX6_tear 11 = .ok (.iconst 0, 1) := by decide +kernel
theorem dX6_tear_12 : decode cX6_tear 12 = .ok (.istore_n 1, 1) := by decide +kernel
theorem dX6_tear_13 : decode cX6_tear 13 = .ok (.aload_n 0, 1) := by decide +kernel
theorem dX6_tear_14 : decode cX6_tear 14 = .ok (.iconst 0, 1) := by decide +kernel
theorem dX6_tear_15 : decode cX6_tear 15 = .ok (.putfield 278, 3) := by decide +kernel
theorem dX6_tear_18 : decode cX6_tear 18 = .ok (.iload_n 1, 1) := by decide +kernel
theorem dX6_tear_19 : decode cX6_tear 19 = .ok (.ireturn, 1) := by decide +kernel
theorem dX6_count_0 : decode cX6_count 0 = .ok (.iload_n 1, 1) := by decide +kernel
theorem dX6_count_1 : decode cX6_count 1 = .ok (.tableswitch 119 0 7 #[47, 55, 63, 79, 87, 95, 103, 111], 47) := by decide +kernel
theorem dX6_count_48 : decode cX6_count 48 = .ok (.aload_n 0, 1) := by decide +kernel
theorem dX6_count_49 : decode cX6_count 49 = .ok (.getfield 12, 3) := by decide +kernel
theorem dX6_count_52 : decode cX6_count 52 = .ok (.getfield 282, 3) := by decide +kernel
theorem dX6_count_55 : decode cX6_count 55 = .ok (.ireturn, 1) := by decide +kernel
theorem dX6_count_56 : decode cX6_count 56 = .ok (.aload_n 0, 1) := by decide +kernel
theorem dX6_count_57 : decode cX6_count 57 = .ok (.getfield 12, 3) := by decide +kernel
theorem dX6_count_60 : decode cX6_count 60 = .ok (.getfield 77, 3) := by decide +kernel
theorem dX6_count_63 : decode cX6_count 63 = .ok (.ireturn, 1) := by decide +kernel
theorem dX6_count_64 : decode cX6_count 64 = .ok (.aload_n 0, 1) := by decide +kernel
theorem dX6_count_65 : decode cX6_count 65 = .ok (.getfield 12, 3) := by decide +kernel
theorem dX6_count_68 : decode cX6_count 68 = .ok (.getfield 77, 3) := by decide +kernel
theorem dX6_count_71 : decode cX6_count 71 = .ok (.aload_n 0, 1) := by decide +kernel
theorem dX6_count_72 : decode cX6_count 72 = .ok (.getfield 12, 3) := by decide +kernel
theorem dX6_count_75 : decode cX6_count 75 = .ok (.invokevirtual 159, 3) := by decide +kernel
theorem dX6_count_78 : decode cX6_count 78 = .ok (.isub, 1) := by decide +kernel
theorem dX6_count_79 : decode cX6_count 79 = .ok (.ireturn, 1) := by decide +kernel
theorem dX6_count_80 : decode cX6_count 80 = .ok (.aload_n 0, 1) := by decide +kernel
theorem dX6_count_81 : decode cX6_count 81 = .ok (.getfield 12, 3) := by decide +kernel
theorem dX6_count_84 : decode cX6_count 84 = .ok (.getfield 126, 3) := by decide +kernel
theorem dX6_count_87 : decode cX6_count 87 = .ok (.ireturn, 1) := by decide +kernel
theorem dX6_count_88 : decode cX6_count 88 = .ok (.aload_n 0, 1) := by decide +kernel
theorem dX6_count_89 : decode cX6_count 89 = .ok (.getfield 12, 3) := by decide +kernel
theorem dX6_count_92 : decode cX6_count 92 = .ok (.invokevirtual 176, 3) := by decide +kernel
theorem dX6_count_95 : decode cX6_count 95 = .ok (.ireturn, 1) := by decide +kernel
theorem dX6_count_96 : decode cX6_count 96 = .ok (.aload_n 0, 1) := by decide +kernel
theorem dX6_count_97 : decode cX6_count 97 = .ok (.getfield 12, 3) := by decide +kernel
theorem dX6_count_100 : decode cX6_count 100 = .ok (.invokevirtual 170, 3) := by decide +kernel
theorem dX6_count_103 : decode cX6_count 103 = .ok (.ireturn, 1) := by decide +kernel
theorem dX6_count_104 : decode cX6_count 104 = .ok (.aload_n 0, 1) := by decide +kernel
theorem dX6_count_105 : decode cX6_count 105 = .ok (.getfield 41, 3) := by decide +kernel
theorem dX6_count_108 : decode cX6_count 108 = .ok (.getfield 285, 3) := by decide +kernel
theorem dX6_count_111 : decode cX6_count 111 = .ok (.ireturn, 1) := by decide +kernel
theorem dX6_count_112 : decode cX6_count 112 = .ok (.aload_n 0, 1) := by decide +kernel
theorem dX6_count_113 : decode cX6_count 113 = .ok (.getfield 12, 3) := by decide +kernel
theorem dX6_count_116 : decode cX6_count 116 = .ok (.getfield 216, 3) := by decide +kernel
theorem dX6_count_119 : decode cX6_count 119 = .ok (.ireturn, 1) := by decide +kernel
theorem dX6_count_120 : decode cX6_count 120 = .ok (.aload_n 0, 1) := by decide +kernel
theorem dX6_count_121 : decode cX6_count 121 = .ok (.ldc 64, 2) := by decide +kernel
theorem dX6_count_123 : decode cX6_count 123 = .ok (.invokevirtual 65, 3) := by decide +kernel
theorem dX6_count_126 : decode cX6_count 126 = .ok (.ireturn, 1) := by decide +kernel
theorem dX6_status_0 : decode cX6_status 0 = .ok (.iload_n 1, 1) := by decide +kernel
theorem dX6_status_1 : decode cX6_status 1 = .ok (.iconst (-1), 1) := by decide +kernel
theorem dX6_status_2 : decode cX6_status 2 = .ok (.bipush 6, 2) := by decide +kernel
theorem dX6_status_4 : decode cX6_status 4 = .ok (.invokestatic 60, 3) := by decide +kernel
theorem dX6_status_7 : decode cX6_status 7 = .ok (.ifCond .ne 10, 3) := by decide +kernel
theorem dX6_status_10 : decode cX6_status 10 = .ok (.aload_n 0, 1) := by decide +kernel
theorem dX6_status_11 : decode cX6_status 11 = .ok (.ldc 64, 2) := by decide +kernel
theorem dX6_status_13 : decode cX6_status 13 = .ok (.invokevirtual 65, 3) := by decide +kernel
theorem dX6_status_16 : decode cX6_status 16 = .ok (.ireturn, 1) := by decide +kernel
theorem dX6_status_17 : decode cX6_status 17 = .ok (.iload_n 1, 1) := by decide +kernel
theorem dX6_status_18 : decode cX6_status 18 = .ok (.ifCond .lt 10, 3) := by decide +kernel
theorem dX6_status_21 : decode cX6_status 21 = .ok (.aload_n 0, 1) := by decide +kernel
theorem dX6_status_22 : decode cX6_status 22 = .ok (.getfield 51, 3) := by decide +kernel
theorem dX6_status_25 : decode cX6_status 25 = .ok (.iload_n 1, 1) := by decide +kernel
theorem dX6_status_26 : decode cX6_status 26 = .ok (.iaload, 1) := by decide +kernel
theorem dX6_status_27 : decode cX6_status 27 = .ok (.ireturn, 1) := by decide +kernel
theorem dX6_status_28 : decode cX6_status 28 = .ok (.iconst 0, 1) := by decide +kernel
theorem dX6_status_29 : decode cX6_status 29 = .ok (.istore_n 2, 1) := by decide +kernel
theorem dX6_status_30 : decode cX6_status 30 = .ok (.iconst 0, 1) := by decide +kernel
theorem dX6_status_31 : decode cX6_status 31 = .ok (.istore_n 3, 1) := by decide +kernel
theorem dX6_status_32 : decode cX6_status 32 = .ok (.iload_n 3, 1) := by decide +kernel
theorem dX6_status_33 : decode cX6_status 33 = .ok (.bipush 7, 2) := by decide +kernel
theorem dX6_status_35 : decode cX6_status 35 = .ok (.if_icmp .ge 18, 3) := by decide +kernel
theorem dX6_status_38 : decode cX6_status 38 = .ok (.iload_n 2, 1) := by decide +kernel
theorem dX6_status_39 : decode cX6_status 39 = .ok (.aload_n 0, 1) := by decide +kernel
theorem dX6_status_40 : decode cX6_status 40 = .ok (.getfield 51, 3) := by decide +kernel
theorem dX6_status_43 : decode cX6_status 43 = .ok (.iload_n 3, 1) := by decide +kernel
theorem dX6_status_44 : decode cX6_status 44 = .ok (.iaload, 1) := by decide +kernel
theorem dX6_status_45 : decode cX6_status 45 = .ok (.iadd, 1) := by decide +kernel
theorem dX6_status_46 : decode cX6_status 46 = .ok (.istore_n 2, 1) := by decide +kernel
theorem dX6_status_47 : decode cX6_status 47 = .ok (.iinc 3 1, 3) := by decide +kernel
theorem dX6_status_50 : decode cX6_status 50 = .ok (.goto (-18), 3) := by decide +kernel
theorem dX6_status_53 : decode cX6_status 53 = .ok (.iload_n 2, 1) := by decide +kernel
theorem dX6_status_54 : decode cX6_status 54 = .ok (.ireturn, 1) := by decide +kernel
theorem dX6_found_0 : decode cX6_found 0 = .ok (.ldc 64, 2) := by decide +kernel
theorem dX6_found_2 : decode cX6_found 2 = .ok (.iload_n 1, 1) := by decide +kernel
theorem dX6_found_3 : decode cX6_found 3 = .ok (.isub, 1) := by decide +kernel
theorem dX6_found_4 : decode cX6_found 4 = .ok (.istore_n 2, 1) := by decide +kernel
theorem dX6_found_5 : decode cX6_found 5 = .ok (.iload_n 2, 1) := by decide +kernel
theorem dX6_found_6 : decode cX6_found 6 = .ok (.iconst 0, 1) := by decide +kernel
theorem dX6_found_7 : decode cX6_found 7 = .ok (.bipush 6, 2) := by decide +kernel
theorem dX6_found_9 : decode cX6_found 9 = .ok (.invokestatic 60, 3) := by decide +kernel
theorem dX6_found_12 : decode cX6_found 12 = .ok (.ifCond .eq 13, 3) := by decide +kernel
theorem dX6_found_15 : decode cX6_found 15 = .ok (.aload_n 0, 1) := by decide +kernel
theorem dX6_found_16 : decode cX6_found 16 = .ok (.getfield 51, 3) := by decide +kernel
theorem dX6_found_19 : decode cX6_found 19 = .ok (.iload_n 2, 1) := by decide +kernel
theorem dX6_found_20 : decode cX6_found 20 = .ok (.dup2, 1) := by decide +kernel
theorem dX6_found_21 : decode cX6_found 21 = .ok (.iaload, 1) := by decide +kernel
theorem dX6_found_22 : decode cX6_found 22 = .ok (.iconst 1, 1) := by decide +kernel
theorem dX6_found_23 : decode cX6_found 23 = .ok (.iadd, 1) := by decide +kernel
theorem dX6_found_24 : decode cX6_found 24 = .ok (.iastore, 1) := by decide +kernel
theorem dX6_found_25 : decode cX6_found 25 = .ok (.iload_n 1, 1) := by decide +kernel
theorem dX6_found_26 : decode cX6_found 26 = .ok (.ireturn, 1) := by decide +kernel
theorem dX6_isIn_0 : decode cX6_isIn 0 = .ok (.iload_n 0, 1) := by decide +kernel
theorem dX6_isIn_1 : decode cX6_isIn 1 = .ok (.iload_n 1, 1) := by decide +kernel
theorem dX6_isIn_2 : decode cX6_isIn 2 = .ok (.if_icmp .lt 12, 3) := by decide +kernel
theorem dX6_isIn_5 : decode cX6_isIn 5 = .ok (.iload_n 0, 1) := by decide +kernel
theorem dX6_isIn_6 : decode cX6_isIn 6 = .ok (.iload_n 2, 1) := by decide +kernel
theorem dX6_isIn_7 : decode cX6_isIn 7 = .ok (.if_icmp .gt 7, 3) := by decide +kernel
theorem dX6_isIn_10 : decode cX6_isIn 10 = .ok (.iconst 1, 1) := by decide +kernel
theorem dX6_isIn_11 : decode cX6_isIn 11 = .ok (.goto 4, 3) := by decide +kernel
theorem dX6_isIn_14 : decode cX6_isIn 14 = .ok (.iconst 0, 1) := by decide +kernel
theorem dX6_isIn_15 : decode cX6_isIn 15 = .ok (.ireturn, 1) := by decide +kernel
theorem dX6_isName_0 : decode cX6_isName 0 = .ok (.iload_n 0, 1) := by decide +kernel
theorem dX6_isName_1 : decode cX6_isName 1 = .ok (.ifCond .lt 13, 3) := by decide +kernel
theorem dX6_isName_4 : decode cX6_isName 4 = .ok (.iload_n 0, 1) := by decide +kernel
theorem dX6_isName_5 : decode cX6_isName 5 = .ok (.bipush 8, 2) := by decide +kernel
theorem dX6_isName_7 : decode cX6_isName 7 = .ok (.if_icmp .ge 7, 3) := by decide +kernel
theorem dX6_isName_10 : decode cX6_isName 10 = .ok (.iconst 1, 1) := by decide +kernel
theorem dX6_isName_11 : decode cX6_isName 11 = .ok (.goto 4, 3) := by decide +kernel
theorem dX6_isName_14 : decode cX6_isName 14 = .ok (.iconst 0, 1) := by decide +kernel
theorem dX6_isName_15 : decode cX6_isName 15 = .ok (.ireturn, 1) := by decide +kernel
theorem dX6_isSheet_0 : decode cX6_isSheet 0 = .ok (.iload_n 0, 1) := by decide +kernel
theorem dX6_isSheet_1 : decode cX6_isSheet 1 = .ok (.ifCond .lt 12, 3) := by decide +kernel
theorem dX6_isSheet_4 : decode cX6_isSheet 4 = .ok (.iload_n 0, 1) := by decide +kernel
theorem dX6_isSheet_5 : decode cX6_isSheet 5 = .ok (.iconst 4, 1) := by decide +kernel
theorem dX6_isSheet_6 : decode cX6_isSheet 6 = .ok (.if_icmp .ge 7, 3) := by decide +kernel
theorem dX6_isSheet_9 : decode cX6_isSheet 9 = .ok (.iconst 1, 1) := by decide +kernel
theorem dX6_isSheet_10 : decode cX6_isSheet 10 = .ok (.goto 4, 3) := by decide +kernel
theorem dX6_isSheet_13 : decode cX6_isSheet 13 = .ok (.iconst 0, 1) := by decide +kernel
theorem dX6_isSheet_14 : decode cX6_isSheet 14 = .ok (.ireturn, 1) := by decide +kernel
theorem dX6_isTooLate_0 : decode cX6_isTooLate 0 = .ok (.aload_n 0, 1) := by decide +kernel
theorem dX6_isTooLate_1 : decode cX6_isTooLate 1 = .ok (.getfield 12, 3) := by decide +kernel
theorem dX6_isTooLate_4 : decode cX6_isTooLate 4 = .ok (.getfield 282, 3) := by decide +kernel
theorem dX6_isTooLate_7 : decode cX6_isTooLate 7 = .ok (.iload_n 1, 1) := by decide +kernel
theorem dX6_isTooLate_8 : decode cX6_isTooLate 8 = .ok (.iadd, 1) := by decide +kernel
theorem dX6_isTooLate_9 : decode cX6_isTooLate 9 = .ok (.sipush 999, 3) := by decide +kernel
theorem dX6_isTooLate_12 : decode cX6_isTooLate 12 = .ok (.if_icmp .le 7, 3) := by decide +kernel
theorem dX6_isTooLate_15 : decode cX6_isTooLate 15 = .ok (.iconst 1, 1) := by decide +kernel
theorem dX6_isTooLate_16 : decode cX6_isTooLate 16 = .ok (.goto 4, 3) := by decide +kernel
theorem dX6_isTooLate_19 : decode cX6_isTooLate 19 = .ok (.iconst 0, 1) := by decide +kernel
theorem dX6_isTooLate_20 : decode cX6_isTooLate 20 = .ok (.ireturn, 1) := by decide +kernel
theorem dX6_lookAhead_0 : decode cX6_lookAhead 0 = .ok (.aload_n 0, 1) := by decide +kernel
theorem dX6_lookAhead_1 : decode cX6_lookAhead 1 = .ok (.getfield 19, 3) := by decide +kernel
theorem dX6_lookAhead_4 : decode cX6_lookAhead 4 = .ok (.aload_n 0, 1) := by decide +kernel
theorem dX6_lookAhead_5 : decode cX6_lookAhead 5 = .ok (.getfield 12, 3) := by decide +kernel
theorem dX6_lookAhead_8 : decode cX6_lookAhead 8 = .ok (.invokevirtual 212, 3) := by decide +kernel
theorem dX6_lookAhead_11 : decode cX6_lookAhead 11 = .ok (.aload_n 0, 1) := by decide +kernel
theorem dX6_lookAhead_12 : decode cX6_lookAhead 12 = .ok (.getfield 25, 3) := by decide +kernel
theorem dX6_lookAhead_15 : decode cX6_lookAhead 15 = .ok (.aload_n 0, 1) := by decide +kernel
theorem dX6_lookAhead_16 : decode cX6_lookAhead 16 = .ok (.getfield 19, 3) := by decide +kernel
theorem dX6_lookAhead_19 : decode cX6_lookAhead 19 = .ok (.iload_n 1, 1) := by decide +kernel
theorem dX6_lookAhead_20 : decode cX6_lookAhead 20 = .ok (.invokevirtual 162, 3) := by decide +kernel
theorem dX6_lookAhead_23 : decode cX6_lookAhead 23 = .ok (.return_, 1) := by decide +kernel
theorem dX6_isShutInTime_0 : decode cX6_isShutInTime 0 = .ok (.aload_n 0, 1) := by decide +kernel
theorem dX6_isShutInTime_1 : decode cX6_isShutInTime 1 = .ok (.getfield 19, 3) := by decide +kernel
theorem dX6_isShutInTime_4 : decode cX6_isShutInTime 4 = .ok (.aload_n 0, 1) := by decide +kernel
theorem dX6_isShutInTime_5 : decode cX6_isShutInTime 5 = .ok (.getfield 12, 3) := by decide +kernel
theorem dX6_isShutInTime_8 : decode cX6_isShutInTime 8 = .ok (.invokevirtual 212, 3) := by decide +kernel
theorem dX6_isShutInTime_11 : decode cX6_isShutInTime 11 = .ok (.aload_n 0, 1) := by decide +kernel
theorem dX6_isShutInTime_12 : decode cX6_isShutInTime 12 = .ok (.getfield 19, 3) := by decide +kernel
theorem dX6_isShutInTime_15 : decode cX6_isShutInTime 15 = .ok (.getfield 136, 3) := by decide +kernel
theorem dX6_isShutInTime_18 : decode cX6_isShutInTime 18 = .ok (.iload_n 1, 1) := by decide +kernel
theorem dX6_isShutInTime_19 : decode cX6_isShutInTime 19 = .ok (.iload_n 2, 1) := by decide +kernel
theorem dX6_isShutInTime_20 : decode cX6_isShutInTime 20 = .ok (.iastore, 1) := by decide +kernel
theorem dX6_isShutInTime_21 : decode cX6_isShutInTime 21 = .ok (.aload_n 0, 1) := by decide +kernel
theorem dX6_isShutInTime_22 : decode cX6_isShutInTime 22 = .ok (.getfield 19, 3) := by decide +kernel
theorem dX6_isShutInTime_25 : decode cX6_isShutInTime 25 = .ok (.getfield 142, 3) := by decide +kernel
theorem dX6_isShutInTime_28 : decode cX6_isShutInTime 28 = .ok (.iload_n 1, 1) := by decide +kernel
theorem dX6_isShutInTime_29 : decode cX6_isShutInTime 29 = .ok (.iload_n 3, 1) := by decide +kernel
theorem dX6_isShutInTime_30 : decode cX6_isShutInTime 30 = .ok (.iastore, 1) := by decide +kernel
theorem dX6_isShutInTime_31 : decode cX6_isShutInTime 31 = .ok (.aload_n 0, 1) := by decide +kernel
theorem dX6_isShutInTime_32 : decode cX6_isShutInTime 32 = .ok (.getfield 25, 3) := by decide +kernel
theorem dX6_isShutInTime_35 : decode cX6_isShutInTime 35 = .ok (.aload_n 0, 1) := by decide +kernel
theorem dX6_isShutInTime_36 : decode cX6_isShutInTime 36 = .ok (.getfield 19, 3) := by decide +kernel
theorem dX6_isShutInTime_39 : decode cX6_isShutInTime 39 = .ok (.bipush 40, 2) := by decide +kernel
theorem dX6_isShutInTime_41 : decode cX6_isShutInTime 41 = .ok (.aload_n 0, 1) := by decide +kernel
theorem dX6_isShutInTime_42 : decode cX6_isShutInTime 42 = .ok (.getfield 12, 3) := by decide +kernel
theorem dX6_isShutInTime_45 : decode cX6_isShutInTime 45 = .ok (.getfield 139, 3) := by decide +kernel
theorem dX6_isShutInTime_48 : decode cX6_isShutInTime 48 = .ok (.iload_n 1, 1) := by decide +kernel
theorem dX6_isShutInTime_49 : decode cX6_isShutInTime 49 = .ok (.iaload, 1) := by decide +kernel
theorem dX6_isShutInTime_50 : decode cX6_isShutInTime 50 = .ok (.isub, 1) := by decide +kernel
theorem dX6_isShutInTime_51 : decode cX6_isShutInTime 51 = .ok (.invokevirtual 162, 3) := by decide +kernel
theorem dX6_isShutInTime_54 : decode cX6_isShutInTime 54 = .ok (.aload_n 0, 1) := by decide +kernel
theorem dX6_isShutInTime_55 : decode cX6_isShutInTime 55 = .ok (.getfield 19, 3) := by decide +kernel
theorem dX6_isShutInTime_58 : decode cX6_isShutInTime 58 = .ok (.iload_n 2, 1) := by decide +kernel
theorem dX6_isShutInTime_59 : decode cX6_isShutInTime 59 = .ok (.invokevirtual 108, 3) := by decide +kernel
theorem dX6_isShutInTime_62 : decode cX6_isShutInTime 62 = .ok (.ifCond .ne 7, 3) := by decide +kernel
theorem dX6_isShutInTime_65 : decode cX6_isShutInTime 65 = .ok (.iconst 1, 1) := by decide +kernel
theorem dX6_isShutInTime_66 : decode cX6_isShutInTime 66 = .ok (.goto 4, 3) := by decide +kernel
theorem dX6_isShutInTime_69 : decode cX6_isShutInTime 69 = .ok (.iconst 0, 1) := by decide +kernel
theorem dX6_isShutInTime_70 : decode cX6_isShutInTime 70 = .ok (.ireturn, 1) := by decide +kernel
theorem dX6_whyNoGiving_0 : decode cX6_whyNoGiving 0 = .ok (.iload_n 1, 1) := by decide +kernel
theorem dX6_whyNoGiving_1 : decode cX6_whyNoGiving 1 = .ok (.iconst 1, 1) := by decide +kernel
theorem dX6_whyNoGiving_2 : decode cX6_whyNoGiving 2 = .ok (.bipush 40, 2) := by decide +kernel
theorem dX6_whyNoGiving_4 : decode cX6_whyNoGiving 4 = .ok (.invokestatic 60, 3) := by decide +kernel
theorem dX6_whyNoGiving_7 : decode cX6_whyNoGiving 7 = .ok (.ifCond .ne 6, 3) := by decide +kernel
theorem dX6_whyNoGiving_10 : decode cX6_whyNoGiving 10 = .ok (.ldc 64, 2) := by decide +kernel
theorem dX6_whyNoGiving_12 : decode cX6_whyNoGiving 12 = .ok (.ireturn, 1) := by decide +kernel
theorem dX6_whyNoGiving_13 : decode cX6_whyNoGiving 13 = .ok (.aload_n 0, 1) := by decide +kernel
theorem dX6_whyNoGiving_14 : decode cX6_whyNoGiving 14 = .ok (.iload_n 1, 1) := by decide +kernel
theorem dX6_whyNoGiving_15 : decode cX6_whyNoGiving 15 = .ok (.invokevirtual 156, 3) := by decide +kernel
theorem dX6_whyNoGiving_18 : decode cX6_whyNoGiving 18 = .ok (.ifCond .eq 6, 3) := by decide +kernel
theorem dX6_whyNoGiving_21 : decode cX6_whyNoGiving 21 = .ok (.ldc 151, 2) := by decide +kernel
theorem dX6_whyNoGiving_23 : decode cX6_whyNoGiving 23 = .ok (.ireturn, 1) := by decide +kernel
theorem dX6_whyNoGiving_24 : decode cX6_whyNoGiving 24 = .ok (.aload_n 0, 1) := by decide +kernel
theorem dX6_whyNoGiving_25 : decode cX6_whyNoGiving 25 = .ok (.getfield 34, 3) := by decide +kernel
theorem dX6_whyNoGiving_28 : decode cX6_whyNoGiving 28 = .ok (.aload_n 0, 1) := by decide +kernel
theorem dX6_whyNoGiving_29 : decode cX6_whyNoGiving 29 = .ok (.getfield 12, 3) := by decide +kernel
theorem dX6_whyNoGiving_32 : decode cX6_whyNoGiving 32 = .ok (.invokevirtual 288, 3) := by decide +kernel
theorem dX6_whyNoGiving_35 : decode cX6_whyNoGiving 35 = .ok (.ifCond .eq 7, 3) := by decide +kernel
theorem dX6_whyNoGiving_38 : decode cX6_whyNoGiving 38 = .ok (.iconst 0, 1) := by decide +kernel
theorem dX6_whyNoGiving_39 : decode cX6_whyNoGiving 39 = .ok (.goto 5, 3) := by decide +kernel
theorem dX6_whyNoGiving_42 : decode cX6_whyNoGiving 42 = .ok (.ldc 243, 2) := by decide +kernel
theorem dX6_whyNoGiving_44 : decode cX6_whyNoGiving 44 = .ok (.ireturn, 1) := by decide +kernel
theorem dX7_init_0 : decode cX7_init 0 = .ok (.aload_n 0, 1) := by decide +kernel
theorem dX7_init_1 : decode cX7_init 1 = .ok (.invokespecial 3, 3) := by decide +kernel
theorem dX7_init_4 : decode cX7_init 4 = .ok (.aload_n 0, 1) := by decide +kernel
theorem dX7_init_5 : decode cX7_init 5 = .ok (.sipush 142, 3) := by decide +kernel
theorem dX7_init_8 : decode cX7_init 8 = .ok (.newarray .int, 2) := by decide +kernel
theorem dX7_init_10 : decode cX7_init 10 = .ok (.putfield 9, 3) := by decide +kernel
theorem dX7_init_13 : decode cX7_init 13 = .ok (.aload_n 0, 1) := by decide +kernel
theorem dX7_init_14 : decode cX7_init 14 = .ok (.sipush 142, 3) := by decide +kernel
theorem dX7_init_17 : decode cX7_init 17 = .ok (.newarray .int, 2) := by decide +kernel
theorem dX7_init_19 : decode cX7_init 19 = .ok (.putfield 13, 3) := by decide +kernel
theorem dX7_init_22 : decode cX7_init 22 = .ok (.aload_n 0, 1) := by decide +kernel
theorem dX7_init_23 : decode cX7_init 23 = .ok (.sipush 142, 3) := by decide +kernel
theorem dX7_init_26 : decode cX7_init 26 = .ok (.newarray .int, 2) := by decide +kernel
theorem dX7_init_28 : decode cX7_init 28 = .ok (.putfield 16, 3) := by decide +kernel
theorem dX7_init_31 : decode cX7_init 31 = .ok (.aload_n 0, 1) := by decide +kernel
theorem dX7_init_32 : decode cX7_init 32 = .ok (.sipush 142, 3) := by decide +kernel
theorem dX7_init_35 : decode cX7_init 35 = .ok (.newarray .int, 2) := by decide +kernel
theorem dX7_init_37 : decode cX7_init 37 = .ok (.putfield 19, 3) := by decide +kernel
theorem dX7_init_40 : decode cX7_init 40 = .ok (.aload_n 0, 1) := by decide +kernel
theorem dX7_init_41 : decode cX7_init 41 = .ok (.bipush 7, 2) := by decide +kernel
theorem dX7_init_43 : decode cX7_init 43 = .ok (.newarray .int, 2) := by decide +kernel
theorem dX7_init_45 : decode cX7_init 45 = .ok (.putfield 22, 3) := by decide +kernel
theorem dX7_init_48 : decode cX7_init 48 = .ok (.aload_n 0, 1) := by decide +kernel
theorem dX7_init_49 : decode cX7_init 49 = .ok (.bipush 8, 2) := by decide +kernel
theorem dX7_init_51 : decode cX7_init 51 = .ok (.newarray .int, 2) := by decide +kernel
theorem dX7_init_53 : decode cX7_init 53 = .ok (.putfield 25, 3) := by decide +kernel
theorem dX7_init_56 : decode cX7_init 56 = .ok (.aload_n 0, 1) := by decide +kernel
theorem dX7_init_57 : decode cX7_init 57 = .ok (.bipush 8, 2) := by decide +kernel
theorem dX7_init_59 : decode cX7_init 59 = .ok (.newarray .int, 2) := by decide +kernel
theorem dX7_init_61 : decode cX7_init 61 = .ok (.putfield 28, 3) := by decide +kernel
theorem dX7_init_64 : decode cX7_init 64 = .ok (.aload_n 0, 1) := by decide +kernel
theorem dX7_init_65 : decode cX7_init 65 = .ok (.bipush 120, 2) := by decide +kernel
theorem dX7_init_67 : decode cX7_init 67 = .ok (.newarray .int, 2) := by decide +kernel
theorem dX7_init_69 : decode cX7_init 69 = .ok (.putfield 31, 3) := by decide +kernel
theorem dX7_init_72 : decode cX7_init 72 = .ok (.aload_n 0, 1) := by decide +kernel
theorem dX7_init_73 : decode cX7_init 73 = .ok (.iconst 4, 1) := by decide +kernel
theorem dX7_init_74 : decode cX7_init 74 = .ok (.newarray .int, 2) := by decide +kernel
theorem dX7_init_76 : decode cX7_init 76 = .ok (.putfield 34, 3) := by decide +kernel
theorem dX7_init_79 : decode cX7_init 79 = .ok (.aload_n 0, 1) := by decide +kernel
theorem dX7_init_80 : decode cX7_init 80 = .ok (.iconst 4, 1) := by decide +kernel
theorem dX7_init_81 : decode cX7_init 81 = .ok (.newarray .int, 2) := by decide +kernel
theorem dX7_init_83 : decode cX7_init 83 = .ok (.putfield 37, 3) := by decide +kernel
theorem dX7_init_86 : decode cX7_init 86 = .ok (.aload_n 0, 1) := by decide +kernel
theorem dX7_init_87 : decode cX7_init 87 = .ok (.sipush 160, 3) := by decide +kernel
theorem dX7_init_90 : decode cX7_init 90 = .ok (.newarray .int, 2) := by decide +kernel
theorem dX7_init_92 : decode cX7_init 92 = .ok (.putfield 40, 3) := by decide +kernel
theorem dX7_init_95 : decode cX7_init 95 = .ok (.aload_n 0, 1) := by decide +kernel
theorem dX7_init_96 : decode cX7_init 96 = .ok (.getfield 9, 3) := by decide +kernel
theorem dX7_init_99 : decode cX7_init 99 = .ok (.iconst 1, 1) := by decide +kernel
theorem dX7_init_100 : decode cX7_init 100 = .ok (.iconst 1, 1) := by decide +kernel
theorem dX7_init_101 : decode cX7_init 101 = .ok (.iastore, 1) := by decide +kernel
theorem dX7_init_102 : decode cX7_init 102 = .ok (.iconst 0, 1) := by decide +kernel
theorem dX7_init_103 : decode cX7_init 103 = .ok (.istore_n 1, 1) := by decide +kernel
theorem dX7_init_104 : decode cX7_init 104 = .ok (.iload_n 1, 1) := by decide +kernel
theorem dX7_init_105 : decode cX7_init 105 = .ok (.bipush 8, 2) := by decide +kernel
theorem dX7_init_107 : decode cX7_init 107 = .ok (.if_icmp .ge 21, 3) := by decide +kernel
theorem dX7_init_110 : decode cX7_init 110 = .ok (.aload_n 0, 1) := by decide +kernel
theorem dX7_init_111 : decode cX7_init 111 = .ok (.getfield 9, 3) := by decide +kernel
theorem dX7_init_114 : decode cX7_init 114 = .ok (.iconst 4, 1) := by decide +kernel
theorem dX7_init_115 : decode cX7_init 115 = .ok (.iconst 2, 1) := by decide +kernel
theorem dX7_init_116 : decode cX7_init 116 = .ok (.iload_n 1, 1) := by decide +kernel
theorem dX7_init_117 : decode cX7_init 117 = .ok (.imul, 1) := by decide +kernel
theorem dX7_init_118 : decode cX7_init 118 = .ok (.iadd, 1) := by decide +kernel
theorem dX7_init_119 : decode cX7_init 119 = .ok (.bipush 10, 2) := by decide +kernel
theorem dX7_init_121 : decode cX7_init 121 = .ok (.iastore, 1) := by decide +kernel
theorem dX7_init_122 : decode cX7_init 122 = .ok (.iinc 1 1, 3) := by decide +kernel
theorem dX7_init_125 : decode cX7_init 125 = .ok (.goto (-21), 3) := by decide +kernel
theorem dX7_init_128 : decode cX7_init 128 = .ok (.iconst 0, 1) := by decide +kernel
theorem dX7_init_129 : decode cX7_init 129 = .ok (.istore_n 1, 1) := by decide +kernel
theorem dX7_init_130 : decode cX7_init 130 = .ok (.iload_n 1, 1) := by decide +kernel
theorem dX7_init_131 : decode cX7_init 131 = .ok (.bipush 10, 2) := by decide +kernel
theorem dX7_init_133 : decode cX7_init 133 = .ok (.if_icmp .ge 20, 3) := by decide +kernel
theorem dX7_init_136 : decode cX7_init 136 = .ok (.aload_n 0, 1) := by decide +kernel
theorem dX7_init_137 : decode cX7_init 137 = .ok (.getfield 9, 3) := by decide +kernel
theorem dX7_init_140 : decode cX7_init 140 = .ok (.sipush 132, 3) := by decide +kernel
theorem dX7_init_143 : decode cX7_init 143 = .ok (.iload_n 1, 1) := by decide +kernel
theorem dX7_init_144 : decode cX7_init 144 = .ok (.iadd, 1) := by decide +kernel
theorem dX7_init_145 : decode cX7_init 145 = .ok (.iconst (-1), 1) := by decide +kernel
theorem dX7_init_146 : decode cX7_init 146 = .ok (.iastore, 1) := by decide +kernel
theorem dX7_init_147 : decode cX7_init 147 = .ok (.iinc 1 1, 3) := by decide +kernel
theorem dX7_init_150 : decode cX7_init 150 = .ok (.goto (-20), 3) := by decide +kernel
theorem dX7_init_153 : decode cX7_init 153 = .ok (.return_, 1) := by decide +kernel
theorem dX7_finds_0 : decode cX7_finds 0 = .ok (.aload_n 0, 1) := by decide +kernel
theorem dX7_finds_1 : decode cX7_finds 1 = .ok (.getfield 22, 3) := by decide +kernel
theorem dX7_finds_4 : decode cX7_finds 4 = .ok (.ldc 43, 2) := by decide +kernel
theorem dX7_finds_6 : decode cX7_finds 6 = .ok (.iload_n 1, 1) := by decide +kernel
theorem dX7_finds_7 : decode cX7_finds 7 = .ok (.isub, 1) := by decide +kernel
theorem dX7_finds_8 : decode cX7_finds 8 = .ok (.dup2, 1) := by decide +kernel
theorem dX7_finds_9 : decode cX7_finds 9 = .ok (.iaload, 1) := by decide +kernel
theorem dX7_finds_10 : decode cX7_finds 10 = .ok (.iconst 1, 1) := by decide +kernel
theorem dX7_finds_11 : decode cX7_finds 11 = .ok (.iadd, 1) := by decide +kernel
theorem dX7_finds_12 : decode cX7_finds 12 = .ok (.iastore, 1) := by decide +kernel
theorem dX7_finds_13 : decode cX7_finds 13 = .ok (.iload_n 1, 1) := by decide +kernel
theorem dX7_finds_14 : decode cX7_finds 14 = .ok (.ireturn, 1) := by decide +kernel
theorem dX7_orNone_0 : decode cX7_orNone 0 = .ok (.iload_n 1, 1) := by decide +kernel
theorem dX7_orNone_1 : decode cX7_orNone 1 = .ok (.ifCond .ge 12, 3) := by decide +kernel
theorem dX7_orNone_4 : decode cX7_orNone 4 = .ok (.aload_n 0, 1) := by decide +kernel
theorem dX7_orNone_5 : decode cX7_orNone 5 = .ok (.ldc 44, 2) := by decide +kernel
theorem dX7_orNone_7 : decode cX7_orNone 7 = .ok (.invokevirtual 45, 3) := by decide +kernel
theorem dX7_orNone_10 : decode cX7_orNone 10 = .ok (.goto 4, 3) := by decide +kernel
theorem dX7_orNone_13 : decode cX7_orNone 13 = .ok (.iload_n 1, 1) := by decide +kernel
theorem dX7_orNone_14 : decode cX7_orNone 14 = .ok (.ireturn, 1) := by decide +kernel
theorem dX7_in_0 : decode cX7_in 0 = .ok (.lload_n 0, 1) := by decide +kernel
theorem dX7_in_1 : decode cX7_in 1 = .ok (.lload_n 2, 1) := by decide +kernel
theorem dX7_in_2 : decode cX7_in 2 = .ok (.lcmp, 1) := by decide +kernel
theorem dX7_in_3 : decode cX7_in 3 = .ok (.ifCond .lt 14, 3) := by decide +kernel
theorem dX7_in_6 : decode cX7_in 6 = .ok (.lload_n 0, 1) := by decide +kernel
theorem dX7_in_7 : decode cX7_in 7 = .ok (.lload 4, 2) := by decide +kernel
theorem dX7_in_9 : decode cX7_in 9 = .ok (.lcmp, 1) := by decide +kernel
theorem dX7_in_10 : decode cX7_in 10 = .ok (.ifCond .gt 7, 3) := by decide +kernel
theorem dX7_in_13 : decode cX7_in 13 = .ok (.iconst 1, 1) := by decide +kernel
theorem dX7_in_14 : decode cX7_in 14 = .ok (.goto 4, 3) := by decide +kernel
theorem dX7_in_17 : decode cX7_in 17 = .ok (.iconst 0, 1) := by decide +kernel
theorem dX7_in_18 : decode cX7_in 18 = .ok (.ireturn, 1) := by decide +kernel
theorem dX7_held_0 : decode cX7_held 0 = .ok (.iload_n 0, 1) := by decide +kernel
theorem dX7_held_1 : decode cX7_held 1 = .ok (.ifCond .ge 7, 3) := by decide +kernel
theorem dX7_held_4 : decode cX7_held 4 = .ok (.iconst 0, 1) := by decide +kernel
theorem dX7_held_5 : decode cX7_held 5 = .ok (.goto 17, 3) := by decide +kernel
theorem dX7_held_8 : decode cX7_held 8 = .ok (.iload_n 0, 1) := by decide +kernel
theorem dX7_held_9 : decode cX7_held 9 = .ok (.sipush 999, 3) := by decide +kernel
theorem dX7_held_12 : decode cX7_held 12 = .ok (.if_icmp .le 9, 3) := by decide +kernel
theorem dX7_held_15 : decode cX7_held 15 = .ok (.sipush 999, 3) := by decide +kernel
theorem dX7_held_18 : decode cX7_held 18 = .ok (.goto 4, 3) := by decide +kernel
theorem dX7_held_21 : decode cX7_held 21 = .ok (.iload_n 0, 1) := by decide +kernel
theorem dX7_held_22 : decode cX7_held 22 = .ok (.ireturn, 1) := by decide +kernel
theorem dX7_row_0 : decode cX7_row 0 = .ok (.iconst 0, 1) := by decide +kernel
theorem dX7_row_1 : decode cX7_row 1 = .ok (.istore_n 2, 1) := by decide +kernel
theorem dX7_row_2 : decode cX7_row 2 = .ok (.iload_n 2, 1) := by decide +kernel
theorem dX7_row_3 : decode cX7_row 3 = .ok (.sipush 142, 3) := by decide +kernel
theorem dX7_row_6 : decode cX7_row 6 = .ok (.if_icmp .ge 15, 3) := by decide +kernel
theorem dX7_row_9 : decode cX7_row 9 = .ok (.aload_n 1, 1) := by decide +kernel
theorem dX7_row_10 : decode cX7_row 10 = .ok (.iload_n 2, 1) := by decide +kernel
theorem dX7_row_11 : decode cX7_row 11 = .ok (.aload_n 0, 1) := by decide +kernel
theorem dX7_row_12 : decode cX7_row 12 = .ok (.iload_n 2, 1) := by decide +kernel
theorem dX7_row_13 : decode cX7_row 13 = .ok (.iaload, 1) := by decide +kernel
theorem dX7_row_14 : decode cX7_row 14 = .ok (.iastore, 1) := by decide +kernel
theorem dX7_row_15 : decode cX7_row 15 = .ok (.iinc 2 1, 3) := by decide +kernel
theorem dX7_row_18 : decode cX7_row 18 = .ok (.goto (-16), 3) := by decide +kernel
theorem dX7_row_21 : decode cX7_row 21 = .ok (.return_, 1) := by decide +kernel
theorem dX7_becomes_0 : decode cX7_becomes 0 = .ok (.aload_n 0, 1) := by decide +kernel
theorem dX7_becomes_1 : decode cX7_becomes 1 = .ok (.getfield 9, 3) := by decide +kernel
theorem dX7_becomes_4 : decode cX7_becomes 4 = .ok (.iload_n 1, 1) := by decide +kernel
theorem dX7_becomes_5 : decode cX7_becomes 5 = .ok (.iaload, 1) := by decide +kernel
theorem dX7_becomes_6 : decode cX7_becomes 6 = .ok (.istore_n 3, 1) := by decide +kernel
theorem dX7_becomes_7 : decode cX7_becomes 7 = .ok (.aload_n 0, 1) := by decide +kernel
theorem dX7_becomes_8 : decode cX7_becomes 8 = .ok (.getfield 9, 3) := by decide +kernel
theorem dX7_becomes_11 : decode cX7_becomes 11 = .ok (.iload_n 1, 1) := by decide +kernel
theorem dX7_becomes_12 : decode cX7_becomes 12 = .ok (.iload_n 2, 1) := by decide +kernel
theorem dX7_becomes_13 : decode cX7_becomes 13 = .ok (.iastore, 1) := by decide +kernel
theorem dX7_becomes_14 : decode cX7_becomes 14 = .ok (.iload_n 3, 1) := by decide +kernel
theorem dX7_becomes_15 : decode cX7_becomes 15 = .ok (.ireturn, 1) := by decide +kernel
theorem dX7_isName_0 : decode cX7_isName 0 = .ok (.iload_n 0, 1) := by decide +kernel
theorem dX7_isName_1 : decode cX7_isName 1 = .ok (.i2l, 1) := by decide +kernel
theorem dX7_isName_2 : decode cX7_isName 2 = .ok (.lconst 0, 1) := by decide +kernel
theorem dX7_isName_3 : decode cX7_isName 3 = .ok (.ldc2_w 49, 3) := by decide +kernel
theorem dX7_isName_6 : decode cX7_isName 6 = .ok (.invokestatic 51, 3) := by decide +kernel
theorem dX7_isName_9 : decode cX7_isName 9 = .ok (.ireturn, 1) := by decide +kernel
theorem dX7_isTask_0 : decode cX7_isTask 0 = .ok (.iload_n 1, 1) := by decide +kernel
theorem dX7_isTask_1 : decode cX7_isTask 1 = .ok (.i2l, 1) := by decide +kernel
theorem dX7_isTask_2 : decode cX7_isTask 2 = .ok (.lconst 0, 1) := by decide +kernel
theorem dX7_isTask_3 : decode cX7_isTask 3 = .ok (.aload_n 0, 1) := by decide +kernel
theorem dX7_isTask_4 : decode cX7_isTask 4 = .ok (.getfield 9, 3) := by decide +kernel
theorem dX7_isTask_7 : decode cX7_isTask 7 = .ok (.iconst 2, 1) := by decide +kernel
theorem dX7_isTask_8 : decode cX7_isTask 8 = .ok (.iaload, 1) := by decide +kernel
theorem dX7_isTask_9 : decode cX7_isTask 9 = .ok (.iconst 1, 1) := by decide +kernel
theorem dX7_isTask_10 : decode cX7_isTask 10 = .ok (.isub, 1) := by decide +kernel
theorem dX7_isTask_11 : decode cX7_isTask 11 = .ok (.i2l, 1) := by decide +kernel
theorem dX7_isTask_12 : decode cX7_isTask 12 = .ok (.invokestatic 51, 3) := by decide +kernel
theorem dX7_isTask_15 : decode cX7_isTask 15 = .ok (.ireturn, 1) := by decide +kernel
theorem dX7_isPerson_0 : decode cX7_isPerson 0 = .ok (.iload_n 1, 1) := by decide +kernel
theorem dX7_isPerson_1 : decode cX7_isPerson 1 = .ok (.i2l, 1) := by decide +kernel
theorem dX7_isPerson_2 : decode cX7_isPerson 2 = .ok (.lconst 0, 1) := by decide +kernel
theorem dX7_isPerson_3 : decode cX7_isPerson 3 = .ok (.aload_n 0, 1) := by decide +kernel
theorem dX7_isPerson_4 : decode cX7_isPerson 4 = .ok (.getfield 9, 3) := by decide +kernel
theorem dX7_isPerson_7 : decode cX7_isPerson 7 = .ok (.iconst 3, 1) := by decide +kernel
theorem dX7_isPerson_8 : decode cX7_isPerson 8 = .ok (.iaload, 1) := by decide +kernel
theorem dX7_isPerson_9 : decode cX7_isPerson 9 = .ok (.iconst 1, 1) := by decide +kernel
theorem dX7_isPerson_10 : decode cX7_isPerson 10 = .ok (.isub, 1) := by decide +kernel
theorem dX7_isPerson_11 : decode cX7_isPerson 11 = .ok (.i2l, 1) := by decide +kernel
theorem dX7_isPerson_12 : decode cX7_isPerson 12 = .ok (.invokestatic 51, 3) := by decide +kernel
theorem dX7_isPerson_15 : decode cX7_isPerson 15 = .ok (.ireturn, 1) := by decide +kernel
theorem dX7_isKind_0 : decode cX7_isKind 0 = .ok (.iload_n 0, 1) := by decide +kernel
theorem dX7_isKind_1 : decode cX7_isKind 1 = .ok (.i2l, 1) := by decide +kernel
theorem dX7_isKind_2 : decode cX7_isKind 2 = .ok (.lconst 0, 1) := by decide +kernel
theorem dX7_isKind_3 : decode cX7_isKind 3 = .ok (.ldc2_w 55, 3) := by decide +kernel
theorem dX7_isKind_6 : decode cX7_isKind 6 = .ok (.invokestatic 51, 3) := by decide +kernel
theorem dX7_isKind_9 : decode cX7_isKind 9 = .ok (.ireturn, 1) := by decide +kernel
theorem dX7_areHands_0 : decode cX7_areHands 0 = .ok (.iload_n 0, 1) := by decide +kernel
theorem dX7_areHands_1 : decode cX7_areHands 1 = .ok (.i2l, 1) := by decide +kernel
theorem dX7_areHands_2 : decode cX7_areHands 2 = .ok (.lconst 1, 1) := by decide +kernel
theorem dX7_areHands_3 : decode cX7_areHands 3 = .ok (.ldc2_w 57, 3) := by decide +kernel
theorem dX7_areHands_6 : decode cX7_areHands 6 = .ok (.invokestatic 51, 3) := by decide +kernel
theorem dX7_areHands_9 : decode cX7_areHands 9 = .ok (.ireturn, 1) := by decide +kernel
theorem dX7_task0_0 : decode cX7_task0 0 = .ok (.aload_n 0, 1) := by decide +kernel
theorem dX7_task0_1 : decode cX7_task0 1 = .ok (.getfield 9, 3) := by decide +kernel
theorem dX7_task0_4 : decode cX7_task0 4 = .ok (.bipush 20, 2) := by decide +kernel
theorem dX7_task0_6 : decode cX7_task0 6 = .ok (.iconst 4, 1) := by decide +kernel
theorem dX7_task0_7 : decode cX7_task0 7 = .ok (.iload_n 1, 1) := by decide +kernel
theorem dX7_task0_8 : decode cX7_task0 8 = .ok (.imul, 1) := by decide +kernel
theorem dX7_task0_9 : decode cX7_task0 9 = .ok (.iadd, 1) := by decide +kernel
theorem dX7_task0_10 : decode cX7_task0 10 = .ok (.iload_n 2, 1) := by decide +kernel
theorem dX7_task0_11 : decode cX7_task0 11 = .ok (.iadd, 1) := by decide +kernel
theorem dX7_task0_12 : decode cX7_task0 12 = .ok (.iaload, 1) := by decide +kernel
theorem dX7_task0_13 : decode cX7_task0 13 = .ok (.ireturn, 1) := by decide +kernel
theorem dX7_person0_0 : decode cX7_person0 0 = .ok (.aload_n 0, 1) := by decide +kernel
theorem dX7_person0_1 : decode cX7_person0 1 = .ok (.getfield 9, 3) := by decide +kernel
theorem dX7_person0_4 : decode cX7_person0 4 = .ok (.bipush 100, 2) := by decide +kernel
theorem dX7_person0_6 : decode cX7_person0 6 = .ok (.iconst 4, 1) := by decide +kernel
theorem dX7_person0_7 : decode cX7_person0 7 = .ok (.iload_n 1, 1) := by decide +kernel
theorem dX7_person0_8 : decode cX7_person0 8 = .ok (.imul, 1) := by decide +kernel
theorem dX7_person0_9 : decode cX7_person0 9 = .ok (.iadd, 1) := by decide +kernel
theorem dX7_person0_10 : decode cX7_person0 10 = .ok (.iload_n 2, 1) := by decide +kernel
theorem dX7_person0_11 : decode cX7_person0 11 = .ok (.iadd, 1) := by decide +kernel
theorem dX7_person0_12 : decode cX7_person0 12 = .ok (.iaload, 1) := by decide +kernel
theorem dX7_person0_13 : decode cX7_person0 13 = .ok (.ireturn, 1) := by decide +kernel
theorem dX7_isEnded_0 : decode cX7_isEnded 0 = .ok (.aload_n 0, 1) := by decide +kernel
theorem dX7_isEnded_1 : decode cX7_isEnded 1 = .ok (.iload_n 1, 1) := by decide +kernel
theorem dX7_isEnded_2 : decode cX7_isEnded 2 = .ok (.iconst 2, 1) := by decide +kernel
theorem dX7_isEnded_3 : decode cX7_isEnded 3 = .ok (.invokevirtual 59, 3) := by decide +kernel
theorem dX7_isEnded_6 : decode cX7_isEnded 6 = .ok (.ifCond .ne 7, 3) := by decide +kernel
theorem dX7_isEnded_9 : decode cX7_isEnded 9 = .ok (.iconst 1, 1) := by decide +kernel
theorem dX7_isEnded_10 : decode cX7_isEnded 10 = .ok (.goto 4, 3) := by decide +kernel
theorem dX7_isEnded_13 : decode cX7_isEnded 13 = .ok (.iconst 0, 1) := by decide +kernel
theorem dX7_isEnded_14 : decode cX7_isEnded 14 = .ok (.ireturn, 1) := by decide +kernel
theorem dX7_bearer_0 : decode cX7_bearer 0 = .ok (.iconst 0, 1) := by decide +kernel
theorem dX7_bearer_1 : decode cX7_bearer 1 = .ok (.istore_n 2, 1) := by decide +kernel
theorem dX7_bearer_2 : decode cX7_bearer 2 = .ok (.iload_n 2, 1) := by decide +kernel
theorem dX7_bearer_3 : decode cX7_bearer 3 = .ok (.aload_n 0, 1) := by decide +kernel
theorem dX7_bearer_4 : decode cX7_bearer 4 = .ok (.getfield 9, 3) := by decide +kernel
theorem dX7_bearer_7 : decode cX7_bearer 7 = .ok (.iconst 3, 1) := by decide +kernel
theorem dX7_bearer_8 : decode cX7_bearer 8 = .ok (.iaload, 1) := by decide +kernel
theorem dX7_bearer_9 : decode cX7_bearer 9 = .ok (.if_icmp .ge 21, 3) := by decide +kernel
theorem dX7_bearer_12 : decode cX7_bearer 12 = .ok (.aload_n 0, 1) := by decide +kernel
theorem dX7_bearer_13 : decode cX7_bearer 13 = .ok (.iload_n 2, 1) := by decide +kernel
theorem dX7_bearer_14 : decode cX7_bearer 14 = .ok (.iconst 0, 1) := by decide +kernel
theorem dX7_bearer_15 : decode cX7_bearer 15 = .ok (.invokevirtual 63, 3) := by decide +kernel
theorem dX7_bearer_18 : decode cX7_bearer 18 = .ok (.iload_n 1, 1) := by decide +kernel
theorem dX7_bearer_19 : decode cX7_bearer 19 = .ok (.if_icmp .ne 5, 3) := by decide +kernel
theorem dX7_bearer_22 : decode cX7_bearer 22 = .ok (.iload_n 2, 1) := by decide +kernel
theorem dX7_bearer_23 : decode cX7_bearer 23 = .ok (.ireturn, 1) := by decide +kernel
theorem dX7_bearer_24 : decode cX7_bearer 24 = .ok (.iinc 2 1, 3) := by decide +kernel
theorem dX7_bearer_27 : decode cX7_bearer 27 = .ok (.goto (-25), 3) := by decide +kernel
theorem dX7_bearer_30 : decode cX7_bearer 30 = .ok (.iconst (-1), 1) := by decide +kernel
theorem dX7_bearer_31 : decode cX7_bearer 31 = .ok (.ireturn, 1) := by decide +kernel
theorem dX7_worth_0 : decode cX7_worth 0 = .ok (.iload_n 1, 1) := by decide +kernel
theorem dX7_worth_1 : decode cX7_worth 1 = .ok (.invokestatic 66, 3) := by decide +kernel
theorem dX7_worth_4 : decode cX7_worth 4 = .ok (.ifCond .eq 28, 3) := by decide +kernel
theorem dX7_worth_7 : decode cX7_worth 7 = .ok (.iload_n 2, 1) := by decide +kernel
theorem dX7_worth_8 : decode cX7_worth 8 = .ok (.i2l, 1) := by decide +kernel
theorem dX7_worth_9 : decode cX7_worth 9 = .ok (.lconst 0, 1) := by decide +kernel
theorem dX7_worth_10 : decode cX7_worth 10 = .ok (.ldc2_w 70, 3) := by decide +kernel
theorem dX7_worth_13 : decode cX7_worth 13 = .ok (.invokestatic 51, 3) := by decide +kernel
theorem dX7_worth_16 : decode cX7_worth 16 = .ok (.ifCond .eq 16, 3) := by decide +kernel
theorem dX7_worth_19 : decode cX7_worth 19 = .ok (.aload_n 0, 1) := by decide +kernel
theorem dX7_worth_20 : decode cX7_worth 20 = .ok (.iconst 4, 1) := by decide +kernel
theorem dX7_worth_21 : decode cX7_worth 21 = .ok (.iconst 2, 1) := by decide +kernel
theorem dX7_worth_22 : decode cX7_worth 22 = .ok (.iload_n 1, 1) := by decide +kernel
theorem dX7_worth_23 : decode cX7_worth 23 = .ok (.imul, 1) := by decide +kernel
theorem dX7_worth_24 : decode cX7_worth 24 = .ok (.iadd, 1) := by decide +kernel
theorem dX7_worth_25 : decode cX7_worth 25 = .ok (.iload_n 2, 1) := by decide +kernel
theorem dX7_worth_26 : decode cX7_worth 26 = .ok (.invokevirtual 72, 3) := by decide +kernel
theorem dX7_worth_29 : decode cX7_worth 29 = .ok (.goto 9, 3) := by decide +kernel
theorem dX7_worth_32 : decode cX7_worth 32 = .ok (.aload_n 0, 1) := by decide +kernel
theorem dX7_worth_33 : decode cX7_worth 33 = .ok (.ldc 43, 2) := by decide +kernel
theorem dX7_worth_35 : decode cX7_worth 35 = .ok (.invokevirtual 45, 3) := by decide +kernel
theorem dX7_worth_38 : decode cX7_worth 38 = .ok (.ireturn, 1) := by decide +kernel
theorem dX7_comes_0 : decode cX7_comes 0 = .ok (.bipush 20, 2) := by decide +kernel
theorem dX7_comes_2 : decode cX7_comes 2 = .ok (.iconst 4, 1) := by decide +kernel
theorem dX7_comes_3 : decode cX7_comes 3 = .ok (.aload_n 0, 1) := by decide +kernel
theorem dX7_comes_4 : decode cX7_comes 4 = .ok (.getfield 9, 3) := by decide +kernel
theorem dX7_comes_7 : decode cX7_comes 7 = .ok (.iconst 2, 1) := by decide +kernel
theorem dX7_comes_8 : decode cX7_comes 8 = .ok (.iaload, 1) := by decide +kernel
theorem dX7_comes_9 : decode cX7_comes 9 = .ok (.imul, 1) := by decide +kernel
theorem dX7_comes_10 : decode cX7_comes 10 = .ok (.iadd, 1) := by decide +kernel
theorem dX7_comes_11 : decode cX7_comes 11 = .ok (.istore 5, 2) := by decide +kernel
theorem dX7_comes_13 : decode cX7_comes 13 = .ok (.aload_n 0, 1) := by decide +kernel
theorem dX7_comes_14 : decode cX7_comes 14 = .ok (.getfield 9, 3) := by decide +kernel
theorem dX7_comes_17 : decode cX7_comes 17 = .ok (.iload 5, 2) := by decide +kernel
theorem dX7_comes_19 : decode cX7_comes 19 = .ok (.iload_n 1, 1) := by decide +kernel
theorem dX7_comes_20 : decode cX7_comes 20 = .ok (.iastore, 1) := by decide +kernel
theorem dX7_comes_21 : decode cX7_comes 21 = .ok (.aload_n 0, 1) := by decide +kernel
theorem dX7_comes_22 : decode cX7_comes 22 = .ok (.getfield 9, 3) := by decide +kernel
theorem dX7_comes_25 : decode cX7_comes 25 = .ok (.iload 5, 2) := by decide +kernel
theorem dX7_comes_27 : decode cX7_comes 27 = .ok (.iconst 1, 1) := by decide +kernel
theorem dX7_comes_28 : decode cX7_comes 28 = .ok (.iadd, 1) := by decide +kernel
theorem dX7_comes_29 : decode cX7_comes 29 = .ok (.iload_n 2, 1) := by decide +kernel
theorem dX7_comes_30 : decode cX7_comes 30 = .ok (.iastore, 1) := by decide +kernel
theorem dX7_comes_31 : decode cX7_comes 31 = .ok (.aload_n 0, 1) := by decide +kernel
theorem dX7_comes_32 : decode cX7_comes 32 = .ok (.getfield 9, 3) := by decide +kernel
theorem dX7_comes_35 : decode cX7_comes 35 = .ok (.iload 5, 2) := by decide +kernel
theorem dX7_comes_37 : decode cX7_comes 37 = .ok (.iconst 2, 1) := by decide +kernel
theorem dX7_comes_38 : decode cX7_comes 38 = .ok (.iadd, 1) := by decide +kernel
theorem dX7_comes_39 : decode cX7_comes 39 = .ok (.iload_n 3, 1) := by decide +kernel
theorem dX7_comes_40 : decode cX7_comes 40 = .ok (.iastore, 1) := by decide +kernel
theorem dX7_comes_41 : decode cX7_comes 41 = .ok (.aload_n 0, 1) := by decide +kernel
theorem dX7_comes_42 : decode cX7_comes 42 = .ok (.getfield 9, 3) := by decide +kernel
theorem dX7_comes_45 : decode cX7_comes 45 = .ok (.iload 5, 2) := by decide +kernel
theorem dX7_comes_47 : decode cX7_comes 47 = .ok (.iconst 3, 1) := by decide +kernel
theorem dX7_comes_48 : decode cX7_comes 48 = .ok (.iadd, 1) := by decide +kernel
theorem dX7_comes_49 : decode cX7_comes 49 = .ok (.iload 4, 2) := by decide +kernel
theorem dX7_comes_51 : decode cX7_comes 51 = .ok (.iastore, 1) := by decide +kernel
theorem dX7_comes_52 : decode cX7_comes 52 = .ok (.aload_n 0, 1) := by decide +kernel
theorem dX7_comes_53 : decode cX7_comes 53 = .ok (.getfield 9, 3) := by decide +kernel
theorem dX7_comes_56 : decode cX7_comes 56 = .ok (.iconst 2, 1) := by decide +kernel
theorem dX7_comes_57 : decode cX7_comes 57 = .ok (.dup2, 1) := by decide +kernel
theorem dX7_comes_58 : decode cX7_comes 58 = .ok (.iaload, 1) := by decide +kernel
theorem dX7_comes_59 : decode cX7_comes 59 = .ok (.iconst 1, 1) := by decide +kernel
theorem dX7_comes_60 : decode cX7_comes 60 = .ok (.iadd, 1) := by decide +kernel
theorem dX7_comes_61 : decode cX7_comes 61 = .ok (.iastore, 1) := by decide +kernel
theorem dX7_comes_62 : decode cX7_comes 62 = .ok (.return_, 1) := by decide +kernel
theorem dX7_task_0 : decode cX7_task 0 = .ok (.iload_n 1, 1) := by decide +kernel
theorem dX7_task_1 : decode cX7_task 1 = .ok (.invokestatic 75, 3) := by decide +kernel
theorem dX7_task_4 : decode cX7_task 4 = .ok (.ifCond .eq 22, 3) := by decide +kernel
theorem dX7_task_7 : decode cX7_task 7 = .ok (.iload_n 2, 1) := by decide +kernel
theorem dX7_task_8 : decode cX7_task 8 = .ok (.invokestatic 66, 3) := by decide +kernel
theorem dX7_task_11 : decode cX7_task 11 = .ok (.ifCond .eq 15, 3) := by decide +kernel
theorem dX7_task_14 : decode cX7_task 14 = .ok (.iload_n 3, 1) := by decide +kernel
theorem dX7_task_15 : decode cX7_task 15 = .ok (.i2l, 1) := by decide +kernel
theorem dX7_task_16 : decode cX7_task 16 = .ok (.lconst 1, 1) := by decide +kernel
theorem dX7_task_17 : decode cX7_task 17 = .ok (.ldc2_w 78, 3) := by decide +kernel
theorem dX7_task_20 : decode cX7_task 20 = .ok (.invokestatic 51, 3) := by decide +kernel
theorem dX7_task_23 : decode cX7_task 23 = .ok (.ifCond .ne 10, 3) := by decide +kernel
theorem dX7_task_26 : decode cX7_task 26 = .ok (.aload_n 0, 1) := by decide +kernel
theorem dX7_task_27 : decode cX7_task 27 = .ok (.ldc 43, 2) := by decide +kernel
theorem dX7_task_29 : decode cX7_task 29 = .ok (.invokevirtual 45, 3) := by decide +kernel
theorem dX7_task_32 : decode cX7_task 32 = .ok (.ireturn, 1) := by decide +kernel
theorem dX7_task_33 : decode cX7_task 33 = .ok (.aload_n 0, 1) := by decide +kernel
theorem dX7_task_34 : decode cX7_task 34 = .ok (.getfield 9, 3) := by decide +kernel
theorem dX7_task_37 : decode cX7_task 37 = .ok (.iconst 2, 1) := by decide +kernel
theorem dX7_task_38 : decode cX7_task 38 = .ok (.iaload, 1) := by decide +kernel
theorem dX7_task_39 : decode cX7_task 39 = .ok (.bipush 20, 2) := by decide +kernel
theorem dX7_task_41 : decode cX7_task 41 = .ok (.if_icmp .ne 10, 3) := by decide +kernel
theorem dX7_task_44 : decode cX7_task 44 = .ok (.aload_n 0, 1) := by decide +kernel
theorem dX7_task_45 : decode cX7_task 45 = .ok (.ldc 80, 2) := by decide +kernel
theorem dX7_task_47 : decode cX7_task 47 = .ok (.invokevirtual 45, 3) := by decide +kernel
theorem dX7_task_50 : decode cX7_task 50 = .ok (.ireturn, 1) := by decide +kernel
theorem dX7_task_51 : decode cX7_task 51 = .ok (.aload_n 0, 1) := by decide +kernel
theorem dX7_task_52 : decode cX7_task 52 = .ok (.iload_n 1, 1) := by decide +kernel
theorem dX7_task_53 : decode cX7_task 53 = .ok (.iload_n 2, 1) := by decide +kernel
theorem dX7_task_54 : decode cX7_task 54 = .ok (.iload_n 3, 1) := by decide +kernel
theorem dX7_task_55 : decode cX7_task 55 = .ok (.iconst (-1), 1) := by decide +kernel
theorem dX7_task_56 : decode cX7_task 56 = .ok (.invokevirtual 81, 3) := by decide +kernel
theorem dX7_task_59 : decode cX7_task 59 = .ok (.aload_n 0, 1) := by decide +kernel
theorem dX7_task_60 : decode cX7_task 60 = .ok (.getfield 9, 3) := by decide +kernel
theorem dX7_task_63 : decode cX7_task 63 = .ok (.iconst 2, 1) := by decide +kernel
theorem dX7_task_64 : decode cX7_task 64 = .ok (.iaload, 1) := by decide +kernel
theorem dX7_task_65 : decode cX7_task 65 = .ok (.iconst 1, 1) := by decide +kernel
theorem dX7_task_66 : decode cX7_task 66 = .ok (.isub, 1) := by decide +kernel
theorem dX7_task_67 : decode cX7_task 67 = .ok (.ireturn, 1) := by decide +kernel
theorem dX7_grows_0 : decode cX7_grows 0 = .ok (.aload_n 0, 1) := by decide +kernel
theorem dX7_grows_1 : decode cX7_grows 1 = .ok (.iload_n 1, 1) := by decide +kernel
theorem dX7_grows_2 : decode cX7_grows 2 = .ok (.invokevirtual 85, 3) := by decide +kernel
theorem dX7_grows_5 : decode cX7_grows 5 = .ok (.ifCond .eq 5, 3) := by decide +kernel
theorem dX7_grows_8 : decode cX7_grows 8 = .ok (.iconst 0, 1) := by decide +kernel
theorem dX7_grows_9 : decode cX7_grows 9 = .ok (.ireturn, 1) := by decide +kernel
theorem dX7_grows_10 : decode cX7_grows 10 = .ok (.aload_n 0, 1) := by decide +kernel
theorem dX7_grows_11 : decode cX7_grows 11 = .ok (.iload_n 1, 1) := by decide +kernel
theorem dX7_grows_12 : decode cX7_grows 12 = .ok (.iconst 0, 1) := by decide +kernel
theorem dX7_grows_13 : decode cX7_grows 13 = .ok (.invokevirtual 59, 3) := by decide +kernel
theorem dX7_grows_16 : decode cX7_grows 16 = .ok (.istore_n 2, 1) := by decide +kernel
theorem dX7_grows_17 : decode cX7_grows 17 = .ok (.aload_n 0, 1) := by decide +kernel
theorem dX7_grows_18 : decode cX7_grows 18 = .ok (.iload_n 1, 1) := by decide +kernel
theorem dX7_grows_19 : decode cX7_grows 19 = .ok (.iconst 2, 1) := by decide +kernel
theorem dX7_grows_20 : decode cX7_grows 20 = .ok (.invokevirtual 59, 3) := by decide +kernel
theorem dX7_grows_23 : decode cX7_grows 23 = .ok (.bipush 10, 2) := by decide +kernel
theorem dX7_grows_25 : decode cX7_grows 25 = .ok (.idiv, 1) := by decide +kernel
theorem dX7_grows_26 : decode cX7_grows 26 = .ok (.istore_n 3, 1) := by decide +kernel
theorem dX7_grows_27 : decode cX7_grows 27 = .ok (.iload_n 2, 1) := by decide +kernel
theorem dX7_grows_28 : decode cX7_grows 28 = .ok (.iconst 2, 1) := by decide +kernel
theorem dX7_grows_29 : decode cX7_grows 29 = .ok (.if_icmp .ne 7, 3) := by decide +kernel
theorem dX7_grows_32 : decode cX7_grows 32 = .ok (.iload_n 3, 1) := by decide +kernel
theorem dX7_grows_33 : decode cX7_grows 33 = .ok (.goto 36, 3) := by decide +kernel
theorem dX7_grows_36 : decode cX7_grows 36 = .ok (.iload_n 2, 1) := by decide +kernel
theorem dX7_grows_37 : decode cX7_grows 37 = .ok (.iconst 3, 1) := by decide +kernel
theorem dX7_grows_38 : decode cX7_grows 38 = .ok (.if_icmp .ne 9, 3) := by decide +kernel
theorem dX7_grows_41 : decode cX7_grows 41 = .ok (.iload_n 3, 1) := by decide +kernel
theorem dX7_grows_42 : decode cX7_grows 42 = .ok (.iconst 1, 1) := by decide +kernel
theorem dX7_grows_43 : decode cX7_grows 43 = .ok (.iadd, 1) := by decide +kernel
theorem dX7_grows_44 : decode cX7_grows 44 = .ok (.goto 25, 3) := by decide +kernel
theorem dX7_grows_47 : decode cX7_grows 47 = .ok (.iload_n 2, 1) := by decide +kernel
theorem dX7_grows_48 : decode cX7_grows 48 = .ok (.bipush 6, 2) := by decide +kernel
theorem dX7_grows_50 : decode cX7_grows 50 = .ok (.if_icmp .ne 18, 3) := by decide +kernel
theorem dX7_grows_53 : decode cX7_grows 53 = .ok (.aload_n 0, 1) := by decide +kernel
theorem dX7_grows_54 : decode cX7_grows 54 = .ok (.getfield 9, 3) := by decide +kernel
theorem dX7_grows_57 : decode cX7_grows 57 = .ok (.iconst 0, 1) := by decide +kernel
theorem dX7_grows_58 : decode cX7_grows 58 = .ok (.iaload, 1) := by decide +kernel
theorem dX7_grows_59 : decode cX7_grows 59 = .ok (.iconst 2, 1) := by decide +kernel
theorem dX7_grows_60 : decode cX7_grows 60 = .ok (.irem, 1) := by decide +kernel
theorem dX7_grows_61 : decode cX7_grows 61 = .ok (.ifCond .ne 7, 3) := by decide +kernel
theorem dX7_grows_64 : decode cX7_grows 64 = .ok (.iconst 1, 1) := by decide +kernel
theorem dX7_grows_65 : decode cX7_grows 65 = .ok (.goto 4, 3) := by decide +kernel
theorem dX7_grows_68 : decode cX7_grows 68 = .ok (.iconst 0, 1) := by decide +kernel
theorem dX7_grows_69 : decode cX7_grows 69 = .ok (.ireturn, 1) := by decide +kernel
theorem dX7_waitsFor_0 : decode cX7_waitsFor 0 = .ok (.aload_n 0, 1) := by decide +kernel
theorem dX7_waitsFor_1 : decode cX7_waitsFor 1 = .ok (.iload_n 1, 1) := by decide +kernel
theorem dX7_waitsFor_2 : decode cX7_waitsFor 2 = .ok (.iconst 3, 1) := by decide +kernel
theorem dX7_waitsFor_3 : decode cX7_waitsFor 3 = .ok (.invokevirtual 59, 3) := by decide +kernel
theorem dX7_waitsFor_6 : decode cX7_waitsFor 6 = .ok (.istore_n 2, 1) := by decide +kernel
theorem dX7_waitsFor_7 : decode cX7_waitsFor 7 = .ok (.aload_n 0, 1) := by decide +kernel
theorem dX7_waitsFor_8 : decode cX7_waitsFor 8 = .ok (.iload_n 1, 1) := by decide +kernel
theorem dX7_waitsFor_9 : decode cX7_waitsFor 9 = .ok (.invokevirtual 85, 3) := by decide +kernel
theorem dX7_waitsFor_12 : decode cX7_waitsFor 12 = .ok (.ifCond .ne 15, 3) := by decide +kernel
theorem dX7_waitsFor_15 : decode cX7_waitsFor 15 = .ok (.iload_n 2, 1) := by decide +kernel
theorem dX7_waitsFor_16 : decode cX7_waitsFor 16 = .ok (.ifCond .lt 11, 3) := by decide +kernel
theorem dX7_waitsFor_19 : decode cX7_waitsFor 19 = .ok (.aload_n 0, 1) := by decide +kernel
theorem dX7_waitsFor_20 : decode cX7_waitsFor 20 = .ok (.iload_n 2, 1) := by decide +kernel
theorem dX7_waitsFor_21 : decode cX7_waitsFor 21 = .ok (.invokevirtual 85, 3) := by decide +kernel
theorem dX7_waitsFor_24 : decode cX7_waitsFor 24 = .ok (.ifCond .eq 7, 3) := by decide +kernel
theorem dX7_waitsFor_27 : decode cX7_waitsFor 27 = .ok (.iconst (-1), 1) := by decide +kernel
theorem dX7_waitsFor_28 : decode cX7_waitsFor 28 = .ok (.goto 4, 3) := by decide +kernel
theorem dX7_waitsFor_31 : decode cX7_waitsFor 31 = .ok (.iload_n 2, 1) := by decide +kernel
theorem dX7_waitsFor_32 : decode cX7_waitsFor 32 = .ok (.ireturn, 1) := by decide +kernel
theorem dX7_comesTo_0 : decode cX7_comesTo 0 = .ok (.iload_n 1, 1) := by decide +kernel
theorem dX7_comesTo_1 : decode cX7_comesTo 1 = .ok (.istore_n 3, 1) := by decide +kernel
theorem dX7_comesTo_2 : decode cX7_comesTo 2 = .ok (.iconst 0, 1) := by decide +kernel
theorem dX7_comesTo_3 : decode cX7_comesTo 3 = .ok (.istore 4, 2) := by decide +kernel
theorem dX7_comesTo_5 : decode cX7_comesTo 5 = .ok (.iload 4, 2) := by decide +kernel
theorem dX7_comesTo_7 : decode cX7_comesTo 7 = .ok (.bipush 20, 2) := by decide +kernel
theorem dX7_comesTo_9 : decode cX7_comesTo 9 = .ok (.if_icmp .ge 26, 3) := by decide +kernel
theorem dX7_comesTo_12 : decode cX7_comesTo 12 = .ok (.iload_n 3, 1) := by decide +kernel
theorem dX7_comesTo_13 : decode cX7_comesTo 13 = .ok (.ifCond .lt 22, 3) := by decide +kernel
theorem dX7_comesTo_16 : decode cX7_comesTo 16 = .ok (.aload_n 0, 1) := by decide +kernel
theorem dX7_comesTo_17 : decode cX7_comesTo 17 = .ok (.iload_n 3, 1) := by decide +kernel
theorem dX7_comesTo_18 : decode cX7_comesTo 18 = .ok (.invokevirtual 88, 3) := by decide +kernel
theorem dX7_comesTo_21 : decode cX7_comesTo 21 = .ok (.istore_n 3, 1) := by decide +kernel
theorem dX7_comesTo_22 : decode cX7_comesTo 22 = .ok (.iload_n 3, 1) := by decide +kernel
theorem dX7_comesTo_23 : decode cX7_comesTo 23 = .ok (.iload_n 2, 1) := by decide +kernel
theorem dX7_comesTo_24 : decode cX7_comesTo 24 = .ok (.if_icmp .ne 5, 3) := by decide +kernel
theorem dX7_comesTo_27 : decode cX7_comesTo 27 = .ok (.iconst 1, 1) := by decide +kernel
theorem dX7_comesTo_28 : decode cX7_comesTo 28 = .ok (.ireturn, 1) := by decide +kernel
theorem dX7_comesTo_29 : decode cX7_comesTo 29 = .ok (.iinc 4 1, 3) := by decide +kernel
theorem dX7_comesTo_32 : decode cX7_comesTo 32 = .ok (.goto (-27), 3) := by decide +kernel
theorem dX7_comesTo_35 : decode cX7_comesTo 35 = .ok (.iconst 0, 1) := by decide +kernel
theorem dX7_comesTo_36 : decode cX7_comesTo 36 = .ok (.ireturn, 1) := by decide +kernel
theorem dX7_taskOf_0 : decode cX7_taskOf 0 = .ok (.aload_n 0, 1) := by decide +kernel
theorem dX7_taskOf_1 : decode cX7_taskOf 1 = .ok (.iload_n 1, 1) := by decide +kernel
theorem dX7_taskOf_2 : decode cX7_taskOf 2 = .ok (.invokevirtual 91, 3) := by decide +kernel
theorem dX7_taskOf_5 : decode cX7_taskOf 5 = .ok (.ifCond .eq 15, 3) := by decide +kernel
theorem dX7_taskOf_8 : decode cX7_taskOf 8 = .ok (.iload_n 2, 1) := by decide +kernel
theorem dX7_taskOf_9 : decode cX7_taskOf 9 = .ok (.i2l, 1) := by decide +kernel
theorem dX7_taskOf_10 : decode cX7_taskOf 10 = .ok (.lconst 0, 1) := by decide +kernel
theorem dX7_taskOf_11 : decode cX7_taskOf 11 = .ok (.ldc2_w 94, 3) := by decide +kernel
theorem dX7_taskOf_14 : decode cX7_taskOf 14 = .ok (.invokestatic 51, 3) := by decide +kernel
theorem dX7_taskOf_17 : decode cX7_taskOf 17 = .ok (.ifCond .ne 10, 3) := by decide +kernel
theorem dX7_taskOf_20 : decode cX7_taskOf 20 = .ok (.aload_n 0, 1) := by decide +kernel
theorem dX7_taskOf_21 : decode cX7_taskOf 21 = .ok (.ldc 43, 2) := by decide +kernel
theorem dX7_taskOf_23 : decode cX7_taskOf 23 = .ok (.invokevirtual 45, 3) := by decide +kernel
theorem dX7_taskOf_26 : decode cX7_taskOf 26 = .ok (.ireturn, 1) := by decide +kernel
theorem dX7_taskOf_27 : decode cX7_taskOf 27 = .ok (.iload_n 2, 1) := by decide +kernel
theorem dX7_taskOf_28 : decode cX7_taskOf 28 = .ok (.iconst 4, 1) := by decide +kernel
theorem dX7_taskOf_29 : decode cX7_taskOf 29 = .ok (.if_icmp .ge 12, 3) := by decide +kernel
theorem dX7_taskOf_32 : decode cX7_taskOf 32 = .ok (.aload_n 0, 1) := by decide +kernel
theorem dX7_taskOf_33 : decode cX7_taskOf 33 = .ok (.iload_n 1, 1) := by decide +kernel
theorem dX7_taskOf_34 : decode cX7_taskOf 34 = .ok (.iload_n 2, 1) := by decide +kernel
theorem dX7_taskOf_35 : decode cX7_taskOf 35 = .ok (.invokevirtual 59, 3) := by decide +kernel
theorem dX7_taskOf_38 : decode cX7_taskOf 38 = .ok (.goto 30, 3) := by decide +kernel
theorem dX7_taskOf_41 : decode cX7_taskOf 41 = .ok (.iload_n 2, 1) := by decide +kernel
theorem dX7_taskOf_42 : decode cX7_taskOf 42 = .ok (.iconst 4, 1) := by decide +kernel
theorem dX7_taskOf_43 : decode cX7_taskOf 43 = .ok (.if_icmp .ne 11, 3) := by decide +kernel
theorem dX7_taskOf_46 : decode cX7_taskOf 46 = .ok (.aload_n 0, 1) := by decide +kernel
theorem dX7_taskOf_47 : decode cX7_taskOf 47 = .ok (.iload_n 1, 1) := by decide +kernel
theorem dX7_taskOf_48 : decode cX7_taskOf 48 = .ok (.invokevirtual 96, 3) := by decide +kernel
theorem dX7_taskOf_51 : decode cX7_taskOf 51 = .ok (.goto 17, 3) := by decide +kernel
theorem dX7_taskOf_54 : decode cX7_taskOf 54 = .ok (.aload_n 0, 1) := by decide +kernel
theorem dX7_taskOf_55 : decode cX7_taskOf 55 = .ok (.iload_n 1, 1) := by decide +kernel
theorem dX7_taskOf_56 : decode cX7_taskOf 56 = .ok (.iload_n 1, 1) := by decide +kernel
theorem dX7_taskOf_57 : decode cX7_taskOf 57 = .ok (.invokevirtual 99, 3) := by decide +kernel
theorem dX7_taskOf_60 : decode cX7_taskOf 60 = .ok (.ifCond .eq 7, 3) := by decide +kernel
theorem dX7_taskOf_63 : decode cX7_taskOf 63 = .ok (.iconst 1, 1) := by decide +kernel
theorem dX7_taskOf_64 : decode cX7_taskOf 64 = .ok (.goto 4, 3) := by decide +kernel
theorem dX7_taskOf_67 : decode cX7_taskOf 67 = .ok (.iconst 0, 1) := by decide +kernel
theorem dX7_taskOf_68 : decode cX7_taskOf 68 = .ok (.ireturn, 1) := by decide +kernel
theorem dX7_turn_0 : decode cX7_turn 0 = .ok (.aload_n 0, 1) := by decide +kernel
theorem dX7_turn_1 : decode cX7_turn 1 = .ok (.iload_n 1, 1) := by decide +kernel
theorem dX7_turn_2 : decode cX7_turn 2 = .ok (.invokevirtual 91, 3) := by decide +kernel
theorem dX7_turn_5 : decode cX7_turn 5 = .ok (.ifCond .eq 24, 3) := by decide +kernel
theorem dX7_turn_8 : decode cX7_turn 8 = .ok (.iload_n 2, 1) := by decide +kernel
theorem dX7_turn_9 : decode cX7_turn 9 = .ok (.invokestatic 75, 3) := by decide +kernel
theorem dX7_turn_12 : decode cX7_turn 12 = .ok (.ifCond .eq 17, 3) := by decide +kernel
theorem dX7_turn_15 : decode cX7_turn 15 = .ok (.aload_n 0, 1) := by decide +kernel
theorem dX7_turn_16 : decode cX7_turn 16 = .ok (.bipush 20, 2) := by decide +kernel
theorem dX7_turn_18 : decode cX7_turn 18 = .ok (.iconst 4, 1) := by decide +kernel
theorem dX7_turn_19 : decode cX7_turn 19 = .ok (.iload_n 1, 1) := by decide +kernel
theorem dX7_turn_20 : decode cX7_turn 20 = .ok (.imul, 1) := by decide +kernel
theorem dX7_turn_21 : decode cX7_turn 21 = .ok (.iadd, 1) := by decide +kernel
theorem dX7_turn_22 : decode cX7_turn 22 = .ok (.iload_n 2, 1) := by decide +kernel
theorem dX7_turn_23 : decode cX7_turn 23 = .ok (.invokevirtual 72, 3) := by decide +kernel
theorem dX7_turn_26 : decode cX7_turn 26 = .ok (.goto 9, 3) := by decide +kernel
theorem dX7_turn_29 : decode cX7_turn 29 = .ok (.aload_n 0, 1) := by decide +kernel
theorem dX7_turn_30 : decode cX7_turn 30 = .ok (.ldc 43, 2) := by decide +kernel
theorem dX7_turn_32 : decode cX7_turn 32 = .ok (.invokevirtual 45, 3) := by decide +kernel
theorem dX7_turn_35 : decode cX7_turn 35 = .ok (.ireturn, 1) := by decide +kernel
theorem dX7_needs_0 : decode cX7_needs 0 = .ok (.aload_n 0, 1) := by decide +kernel
theorem dX7_needs_1 : decode cX7_needs 1 = .ok (.iload_n 1, 1) := by decide +kernel
theorem dX7_needs_2 : decode cX7_needs 2 = .ok (.invokevirtual 91, 3) := by decide +kernel
theorem dX7_needs_5 : decode cX7_needs 5 = .ok (.ifCond .eq 25, 3) := by decide +kernel
theorem dX7_needs_8 : decode cX7_needs 8 = .ok (.iload_n 2, 1) := by decide +kernel
theorem dX7_needs_9 : decode cX7_needs 9 = .ok (.iconst (-1), 1) := by decide +kernel
theorem dX7_needs_10 : decode cX7_needs 10 = .ok (.if_icmp .eq 16, 3) := by decide +kernel
theorem dX7_needs_13 : decode cX7_needs 13 = .ok (.aload_n 0, 1) := by decide +kernel
theorem dX7_needs_14 : decode cX7_needs 14 = .ok (.iload_n 2, 1) := by decide +kernel
theorem dX7_needs_15 : decode cX7_needs 15 = .ok (.invokevirtual 91, 3) := by decide +kernel
theorem dX7_needs_18 : decode cX7_needs 18 = .ok (.ifCond .eq 12, 3) := by decide +kernel
theorem dX7_needs_21 : decode cX7_needs 21 = .ok (.iload_n 2, 1) := by decide +kernel
theorem dX7_needs_22 : decode cX7_needs 22 = .ok (.iload_n 1, 1) := by decide +kernel
theorem dX7_needs_23 : decode cX7_needs 23 = .ok (.if_icmp .eq 7, 3) := by decide +kernel
theorem dX7_needs_26 : decode cX7_needs 26 = .ok (.iconst 1, 1) := by decide +kernel
theorem dX7_needs_27 : decode cX7_needs 27 = .ok (.goto 4, 3) := by decide +kernel
theorem dX7_needs_30 : decode cX7_needs 30 = .ok (.iconst 0, 1) := by decide +kernel
theorem dX7_needs_31 : decode cX7_needs 31 = .ok (.istore_n 3, 1) := by decide +kernel
theorem dX7_needs_32 : decode cX7_needs 32 = .ok (.iload_n 3, 1) := by decide +kernel
theorem dX7_needs_33 : decode cX7_needs 33 = .ok (.ifCond .eq 19, 3) := by decide +kernel
theorem dX7_needs_36 : decode cX7_needs 36 = .ok (.aload_n 0, 1) := by decide +kernel
theorem dX7_needs_37 : decode cX7_needs 37 = .ok (.bipush 20, 2) := by decide +kernel
theorem dX7_needs_39 : decode cX7_needs 39 = .ok (.iconst 4, 1) := by decide +kernel
theorem dX7_needs_40 : decode cX7_needs 40 = .ok (.iload_n 1, 1) := by decide +kernel
theorem dX7_needs_41 : decode cX7_needs 41 = .ok (.imul, 1) := by decide +kernel
theorem dX7_needs_42 : decode cX7_needs 42 = .ok (.iadd, 1) := by decide +kernel
theorem dX7_needs_43 : decode cX7_needs 43 = .ok (.iconst 3, 1) := by decide +kernel
theorem dX7_needs_44 : decode cX7_needs 44 = .ok (.iadd, 1) := by decide +kernel
theorem dX7_needs_45 : decode cX7_needs 45 = .ok (.iload_n 2, 1) := by decide +kernel
theorem dX7_needs_46 : decode cX7_needs 46 = .ok (.invokevirtual 72, 3) := by decide +kernel
theorem dX7_needs_49 : decode cX7_needs 49 = .ok (.goto 9, 3) := by decide +kernel
theorem dX7_needs_52 : decode cX7_needs 52 = .ok (.aload_n 0, 1) := by decide +kernel
theorem dX7_needs_53 : decode cX7_needs 53 = .ok (.ldc 43, 2) := by decide +kernel
theorem dX7_needs_55 : decode cX7_needs 55 = .ok (.invokevirtual 45, 3) := by decide +kernel
theorem dX7_needs_58 : decode cX7_needs 58 = .ok (.ireturn, 1) := by decide +kernel
end
section
theorem dX7_strike_0 : decode cX7_strike 0 = .ok (.aload_n 0, 1) := by decide +kernel
theorem dX7_strike_1 : decode cX7_strike 1 = .ok (.iload_n 1, 1) := by decide +kernel
theorem dX7_strike_2 : decode cX7_strike 2 = .ok (.invokevirtual 91, 3) := by decide +kernel
theorem dX7_strike_5 : decode cX7_strike 5 = .ok (.ifCond .eq 19, 3) := by decide +kernel
theorem dX7_strike_8 : decode cX7_strike 8 = .ok (.aload_n 0, 1) := by decide +kernel
theorem dX7_strike_9 : decode cX7_strike 9 = .ok (.bipush 20, 2) := by decide +kernel
theorem dX7_strike_11 : decode cX7_strike 11 = .ok (.iconst 4, 1) := by decide +kernel
theorem dX7_strike_12 : decode cX7_strike 12 = .ok (.iload_n 1, 1) := by decide +kernel
theorem dX7_strike_13 : decode cX7_strike 13 = .ok (.imul, 1) := by decide +kernel
theorem dX7_strike_14 : decode cX7_strike 14 = .ok (.iadd, 1) := by decide +kernel
theorem dX7_strike_15 : decode cX7_strike 15 = .ok (.iconst 2, 1) := by decide +kernel
theorem dX7_strike_16 : decode cX7_strike 16 = .ok (.iadd, 1) := by decide +kernel
theorem dX7_strike_17 : decode cX7_strike 17 = .ok (.iconst 0, 1) := by decide +kernel
theorem dX7_strike_18 : decode cX7_strike 18 = .ok (.invokevirtual 72, 3) := by decide +kernel
theorem dX7_strike_21 : decode cX7_strike 21 = .ok (.goto 9, 3) := by decide +kernel
theorem dX7_strike_24 : decode cX7_strike 24 = .ok (.aload_n 0, 1) := by decide +kernel
theorem dX7_strike_25 : decode cX7_strike 25 = .ok (.ldc 43, 2) := by decide +kernel
theorem dX7_strike_27 : decode cX7_strike 27 = .ok (.invokevirtual 45, 3) := by decide +kernel
theorem dX7_strike_30 : decode cX7_strike 30 = .ok (.ireturn, 1) := by decide +kernel
theorem dX7_isOpen_0 : decode cX7_isOpen 0 = .ok (.iconst 0, 1) := by decide +kernel
theorem dX7_isOpen_1 : decode cX7_isOpen 1 = .ok (.istore_n 2, 1) := by decide +kernel
theorem dX7_isOpen_2 : decode cX7_isOpen 2 = .ok (.iload_n 2, 1) := by decide +kernel
theorem dX7_isOpen_3 : decode cX7_isOpen 3 = .ok (.aload_n 0, 1) := by decide +kernel
theorem dX7_isOpen_4 : decode cX7_isOpen 4 = .ok (.getfield 9, 3) := by decide +kernel
theorem dX7_isOpen_7 : decode cX7_isOpen 7 = .ok (.iconst 2, 1) := by decide +kernel
theorem dX7_isOpen_8 : decode cX7_isOpen 8 = .ok (.iaload, 1) := by decide +kernel
theorem dX7_isOpen_9 : decode cX7_isOpen 9 = .ok (.if_icmp .ge 29, 3) := by decide +kernel
theorem dX7_isOpen_12 : decode cX7_isOpen 12 = .ok (.aload_n 0, 1) := by decide +kernel
theorem dX7_isOpen_13 : decode cX7_isOpen 13 = .ok (.iload_n 2, 1) := by decide +kernel
theorem dX7_isOpen_14 : decode cX7_isOpen 14 = .ok (.iconst 1, 1) := by decide +kernel
theorem dX7_isOpen_15 : decode cX7_isOpen 15 = .ok (.invokevirtual 59, 3) := by decide +kernel
theorem dX7_isOpen_18 : decode cX7_isOpen 18 = .ok (.iload_n 1, 1) := by decide +kernel
theorem dX7_isOpen_19 : decode cX7_isOpen 19 = .ok (.if_icmp .ne 13, 3) := by decide +kernel
theorem dX7_isOpen_22 : decode cX7_isOpen 22 = .ok (.aload_n 0, 1) := by decide +kernel
theorem dX7_isOpen_23 : decode cX7_isOpen 23 = .ok (.iload_n 2, 1) := by decide +kernel
theorem dX7_isOpen_24 : decode cX7_isOpen 24 = .ok (.invokevirtual 85, 3) := by decide +kernel
theorem dX7_isOpen_27 : decode cX7_isOpen 27 = .ok (.ifCond .ne 5, 3) := by decide +kernel
theorem dX7_isOpen_30 : decode cX7_isOpen 30 = .ok (.iconst 1, 1) := by decide +kernel
theorem dX7_isOpen_31 : decode cX7_isOpen 31 = .ok (.ireturn, 1) := by decide +kernel
theorem dX7_isOpen_32 : decode cX7_isOpen 32 = .ok (.iinc 2 1, 3) := by decide +kernel
theorem dX7_isOpen_35 : decode cX7_isOpen 35 = .ok (.goto (-33), 3) := by decide +kernel
theorem dX7_isOpen_38 : decode cX7_isOpen 38 = .ok (.iconst 0, 1) := by decide +kernel
theorem dX7_isOpen_39 : decode cX7_isOpen 39 = .ok (.ireturn, 1) := by decide +kernel
theorem dX7_atHand_0 : decode cX7_atHand 0 = .ok (.iconst 0, 1) := by decide +kernel
theorem dX7_atHand_1 : decode cX7_atHand 1 = .ok (.istore_n 2, 1) := by decide +kernel
theorem dX7_atHand_2 : decode cX7_atHand 2 = .ok (.iload_n 2, 1) := by decide +kernel
theorem dX7_atHand_3 : decode cX7_atHand 3 = .ok (.aload_n 0, 1) := by decide +kernel
theorem dX7_atHand_4 : decode cX7_atHand 4 = .ok (.getfield 9, 3) := by decide +kernel
theorem dX7_atHand_7 : decode cX7_atHand 7 = .ok (.iconst 2, 1) := by decide +kernel
theorem dX7_atHand_8 : decode cX7_atHand 8 = .ok (.iaload, 1) := by decide +kernel
theorem dX7_atHand_9 : decode cX7_atHand 9 = .ok (.if_icmp .ge 37, 3) := by decide +kernel
theorem dX7_atHand_12 : decode cX7_atHand 12 = .ok (.aload_n 0, 1) := by decide +kernel
theorem dX7_atHand_13 : decode cX7_atHand 13 = .ok (.iload_n 2, 1) := by decide +kernel
theorem dX7_atHand_14 : decode cX7_atHand 14 = .ok (.iconst 1, 1) := by decide +kernel
theorem dX7_atHand_15 : decode cX7_atHand 15 = .ok (.invokevirtual 59, 3) := by decide +kernel
theorem dX7_atHand_18 : decode cX7_atHand 18 = .ok (.iload_n 1, 1) := by decide +kernel
theorem dX7_atHand_19 : decode cX7_atHand 19 = .ok (.if_icmp .ne 21, 3) := by decide +kernel
theorem dX7_atHand_22 : decode cX7_atHand 22 = .ok (.aload_n 0, 1) := by decide +kernel
theorem dX7_atHand_23 : decode cX7_atHand 23 = .ok (.iload_n 2, 1) := by decide +kernel
theorem dX7_atHand_24 : decode cX7_atHand 24 = .ok (.invokevirtual 85, 3) := by decide +kernel
theorem dX7_atHand_27 : decode cX7_atHand 27 = .ok (.ifCond .ne 13, 3) := by decide +kernel
theorem dX7_atHand_30 : decode cX7_atHand 30 = .ok (.aload_n 0, 1) := by decide +kernel
theorem dX7_atHand_31 : decode cX7_atHand 31 = .ok (.iload_n 2, 1) := by decide +kernel
theorem dX7_atHand_32 : decode cX7_atHand 32 = .ok (.invokevirtual 88, 3) := by decide +kernel
theorem dX7_atHand_35 : decode cX7_atHand 35 = .ok (.ifCond .ge 5, 3) := by decide +kernel
theorem dX7_atHand_38 : decode cX7_atHand 38 = .ok (.iload_n 2, 1) := by decide +kernel
theorem dX7_atHand_39 : decode cX7_atHand 39 = .ok (.ireturn, 1) := by decide +kernel
theorem dX7_atHand_40 : decode cX7_atHand 40 = .ok (.iinc 2 1, 3) := by decide +kernel
theorem dX7_atHand_43 : decode cX7_atHand 43 = .ok (.goto (-41), 3) := by decide +kernel
theorem dX7_atHand_46 : decode cX7_atHand 46 = .ok (.iconst (-1), 1) := by decide +kernel
theorem dX7_atHand_47 : decode cX7_atHand 47 = .ok (.ireturn, 1) := by decide +kernel
theorem dX7_sumOf_0 : decode cX7_sumOf 0 = .ok (.iconst 0, 1) := by decide +kernel
theorem dX7_sumOf_1 : decode cX7_sumOf 1 = .ok (.istore_n 3, 1) := by decide +kernel
theorem dX7_sumOf_2 : decode cX7_sumOf 2 = .ok (.iconst 0, 1) := by decide +kernel
theorem dX7_sumOf_3 : decode cX7_sumOf 3 = .ok (.istore 4, 2) := by decide +kernel
theorem dX7_sumOf_5 : decode cX7_sumOf 5 = .ok (.iload 4, 2) := by decide +kernel
theorem dX7_sumOf_7 : decode cX7_sumOf 7 = .ok (.aload_n 0, 1) := by decide +kernel
theorem dX7_sumOf_8 : decode cX7_sumOf 8 = .ok (.getfield 9, 3) := by decide +kernel
theorem dX7_sumOf_11 : decode cX7_sumOf 11 = .ok (.iconst 2, 1) := by decide +kernel
theorem dX7_sumOf_12 : decode cX7_sumOf 12 = .ok (.iaload, 1) := by decide +kernel
theorem dX7_sumOf_13 : decode cX7_sumOf 13 = .ok (.if_icmp .ge 42, 3) := by decide +kernel
theorem dX7_sumOf_16 : decode cX7_sumOf 16 = .ok (.iload_n 3, 1) := by decide +kernel
theorem dX7_sumOf_17 : decode cX7_sumOf 17 = .ok (.aload_n 0, 1) := by decide +kernel
theorem dX7_sumOf_18 : decode cX7_sumOf 18 = .ok (.iload 4, 2) := by decide +kernel
theorem dX7_sumOf_20 : decode cX7_sumOf 20 = .ok (.iconst 1, 1) := by decide +kernel
theorem dX7_sumOf_21 : decode cX7_sumOf 21 = .ok (.invokevirtual 59, 3) := by decide +kernel
theorem dX7_sumOf_24 : decode cX7_sumOf 24 = .ok (.iload_n 1, 1) := by decide +kernel
theorem dX7_sumOf_25 : decode cX7_sumOf 25 = .ok (.if_icmp .eq 7, 3) := by decide +kernel
theorem dX7_sumOf_28 : decode cX7_sumOf 28 = .ok (.iconst 0, 1) := by decide +kernel
theorem dX7_sumOf_29 : decode cX7_sumOf 29 = .ok (.goto 18, 3) := by decide +kernel
theorem dX7_sumOf_32 : decode cX7_sumOf 32 = .ok (.iload_n 2, 1) := by decide +kernel
theorem dX7_sumOf_33 : decode cX7_sumOf 33 = .ok (.ifCond .eq 13, 3) := by decide +kernel
theorem dX7_sumOf_36 : decode cX7_sumOf 36 = .ok (.aload_n 0, 1) := by decide +kernel
theorem dX7_sumOf_37 : decode cX7_sumOf 37 = .ok (.iload 4, 2) := by decide +kernel
theorem dX7_sumOf_39 : decode cX7_sumOf 39 = .ok (.iconst 2, 1) := by decide +kernel
theorem dX7_sumOf_40 : decode cX7_sumOf 40 = .ok (.invokevirtual 59, 3) := by decide +kernel
theorem dX7_sumOf_43 : decode cX7_sumOf 43 = .ok (.goto 4, 3) := by decide +kernel
theorem dX7_sumOf_46 : decode cX7_sumOf 46 = .ok (.iconst 1, 1) := by decide +kernel
theorem dX7_sumOf_47 : decode cX7_sumOf 47 = .ok (.iadd, 1) := by decide +kernel
theorem dX7_sumOf_48 : decode cX7_sumOf 48 = .ok (.istore_n 3, 1) := by decide +kernel
theorem dX7_sumOf_49 : decode cX7_sumOf 49 = .ok (.iinc 4 1, 3) := by decide +kernel
theorem dX7_sumOf_52 : decode cX7_sumOf 52 = .ok (.goto (-47), 3) := by decide +kernel
theorem dX7_sumOf_55 : decode cX7_sumOf 55 = .ok (.iload_n 3, 1) := by decide +kernel
theorem dX7_sumOf_56 : decode cX7_sumOf 56 = .ok (.ireturn, 1) := by decide +kernel
theorem dX7_nameOf_0 : decode cX7_nameOf 0 = .ok (.iload_n 1, 1) := by decide +kernel
theorem dX7_nameOf_1 : decode cX7_nameOf 1 = .ok (.invokestatic 66, 3) := by decide +kernel
theorem dX7_nameOf_4 : decode cX7_nameOf 4 = .ok (.ifCond .eq 15, 3) := by decide +kernel
theorem dX7_nameOf_7 : decode cX7_nameOf 7 = .ok (.iload_n 2, 1) := by decide +kernel
theorem dX7_nameOf_8 : decode cX7_nameOf 8 = .ok (.i2l, 1) := by decide +kernel
theorem dX7_nameOf_9 : decode cX7_nameOf 9 = .ok (.lconst 0, 1) := by decide +kernel
theorem dX7_nameOf_10 : decode cX7_nameOf 10 = .ok (.ldc2_w 55, 3) := by decide +kernel
theorem dX7_nameOf_13 : decode cX7_nameOf 13 = .ok (.invokestatic 51, 3) := by decide +kernel
theorem dX7_nameOf_16 : decode cX7_nameOf 16 = .ok (.ifCond .ne 10, 3) := by decide +kernel
theorem dX7_nameOf_19 : decode cX7_nameOf 19 = .ok (.aload_n 0, 1) := by decide +kernel
theorem dX7_nameOf_20 : decode cX7_nameOf 20 = .ok (.ldc 43, 2) := by decide +kernel
theorem dX7_nameOf_22 : decode cX7_nameOf 22 = .ok (.invokevirtual 45, 3) := by decide +kernel
theorem dX7_nameOf_25 : decode cX7_nameOf 25 = .ok (.ireturn, 1) := by decide +kernel
theorem dX7_nameOf_26 : decode cX7_nameOf 26 = .ok (.iload_n 2, 1) := by decide +kernel
theorem dX7_nameOf_27 : decode cX7_nameOf 27 = .ok (.tableswitch 88 0 5 #[37, 48, 62, 68, 75, 82], 37) := by decide +kernel
theorem dX7_nameOf_64 : decode cX7_nameOf 64 = .ok (.aload_n 0, 1) := by decide +kernel
theorem dX7_nameOf_65 : decode cX7_nameOf 65 = .ok (.getfield 9, 3) := by decide +kernel
theorem dX7_nameOf_68 : decode cX7_nameOf 68 = .ok (.iconst 4, 1) := by decide +kernel
theorem dX7_nameOf_69 : decode cX7_nameOf 69 = .ok (.iconst 2, 1) := by decide +kernel
theorem dX7_nameOf_70 : decode cX7_nameOf 70 = .ok (.iload_n 1, 1) := by decide +kernel
theorem dX7_nameOf_71 : decode cX7_nameOf 71 = .ok (.imul, 1) := by decide +kernel
theorem dX7_nameOf_72 : decode cX7_nameOf 72 = .ok (.iadd, 1) := by decide +kernel
theorem dX7_nameOf_73 : decode cX7_nameOf 73 = .ok (.iaload, 1) := by decide +kernel
theorem dX7_nameOf_74 : decode cX7_nameOf 74 = .ok (.ireturn, 1) := by decide +kernel
theorem dX7_nameOf_75 : decode cX7_nameOf 75 = .ok (.aload_n 0, 1) := by decide +kernel
theorem dX7_nameOf_76 : decode cX7_nameOf 76 = .ok (.iload_n 1, 1) := by decide +kernel
theorem dX7_nameOf_77 : decode cX7_nameOf 77 = .ok (.invokevirtual 103, 3) := by decide +kernel
theorem dX7_nameOf_80 : decode cX7_nameOf 80 = .ok (.ifCond .eq 7, 3) := by decide +kernel
theorem dX7_nameOf_83 : decode cX7_nameOf 83 = .ok (.iconst 1, 1) := by decide +kernel
theorem dX7_nameOf_84 : decode cX7_nameOf 84 = .ok (.goto 4, 3) := by decide +kernel
theorem dX7_nameOf_87 : decode cX7_nameOf 87 = .ok (.iconst 0, 1) := by decide +kernel
theorem dX7_nameOf_88 : decode cX7_nameOf 88 = .ok (.ireturn, 1) := by decide +kernel
theorem dX7_nameOf_89 : decode cX7_nameOf 89 = .ok (.aload_n 0, 1) := by decide +kernel
theorem dX7_nameOf_90 : decode cX7_nameOf 90 = .ok (.iload_n 1, 1) := by decide +kernel
theorem dX7_nameOf_91 : decode cX7_nameOf 91 = .ok (.invokevirtual 106, 3) := by decide +kernel
theorem dX7_nameOf_94 : decode cX7_nameOf 94 = .ok (.ireturn, 1) := by decide +kernel
theorem dX7_nameOf_95 : decode cX7_nameOf 95 = .ok (.aload_n 0, 1) := by decide +kernel
theorem dX7_nameOf_96 : decode cX7_nameOf 96 = .ok (.iload_n 1, 1) := by decide +kernel
theorem dX7_nameOf_97 : decode cX7_nameOf 97 = .ok (.iconst 0, 1) := by decide +kernel
theorem dX7_nameOf_98 : decode cX7_nameOf 98 = .ok (.invokevirtual 109, 3) := by decide +kernel
theorem dX7_nameOf_101 : decode cX7_nameOf 101 = .ok (.ireturn, 1) := by decide +kernel
theorem dX7_nameOf_102 : decode cX7_nameOf 102 = .ok (.aload_n 0, 1) := by decide +kernel
theorem dX7_nameOf_103 : decode cX7_nameOf 103 = .ok (.iload_n 1, 1) := by decide +kernel
theorem dX7_nameOf_104 : decode cX7_nameOf 104 = .ok (.iconst 1, 1) := by decide +kernel
theorem dX7_nameOf_105 : decode cX7_nameOf 105 = .ok (.invokevirtual 109, 3) := by decide +kernel
theorem dX7_nameOf_108 : decode cX7_nameOf 108 = .ok (.ireturn, 1) := by decide +kernel
theorem dX7_nameOf_109 : decode cX7_nameOf 109 = .ok (.aload_n 0, 1) := by decide +kernel
theorem dX7_nameOf_110 : decode cX7_nameOf 110 = .ok (.iload_n 1, 1) := by decide +kernel
theorem dX7_nameOf_111 : decode cX7_nameOf 111 = .ok (.invokevirtual 113, 3) := by decide +kernel
theorem dX7_nameOf_114 : decode cX7_nameOf 114 = .ok (.ireturn, 1) := by decide +kernel
theorem dX7_nameOf_115 : decode cX7_nameOf 115 = .ok (.aload_n 0, 1) := by decide +kernel
theorem dX7_nameOf_116 : decode cX7_nameOf 116 = .ok (.getfield 9, 3) := by decide +kernel
theorem dX7_nameOf_119 : decode cX7_nameOf 119 = .ok (.iconst 4, 1) := by decide +kernel
theorem dX7_nameOf_120 : decode cX7_nameOf 120 = .ok (.iconst 2, 1) := by decide +kernel
theorem dX7_nameOf_121 : decode cX7_nameOf 121 = .ok (.iload_n 1, 1) := by decide +kernel
theorem dX7_nameOf_122 : decode cX7_nameOf 122 = .ok (.imul, 1) := by decide +kernel
theorem dX7_nameOf_123 : decode cX7_nameOf 123 = .ok (.iadd, 1) := by decide +kernel
theorem dX7_nameOf_124 : decode cX7_nameOf 124 = .ok (.iconst 1, 1) := by decide +kernel
theorem dX7_nameOf_125 : decode cX7_nameOf 125 = .ok (.iadd, 1) := by decide +kernel
theorem dX7_nameOf_126 : decode cX7_nameOf 126 = .ok (.iaload, 1) := by decide +kernel
theorem dX7_nameOf_127 : decode cX7_nameOf 127 = .ok (.ireturn, 1) := by decide +kernel
theorem dX7_rings_0 : decode cX7_rings 0 = .ok (.iconst 0, 1) := by decide +kernel
theorem dX7_rings_1 : decode cX7_rings 1 = .ok (.istore_n 1, 1) := by decide +kernel
theorem dX7_rings_2 : decode cX7_rings 2 = .ok (.iconst 0, 1) := by decide +kernel
theorem dX7_rings_3 : decode cX7_rings 3 = .ok (.istore_n 2, 1) := by decide +kernel
theorem dX7_rings_4 : decode cX7_rings 4 = .ok (.iload_n 2, 1) := by decide +kernel
theorem dX7_rings_5 : decode cX7_rings 5 = .ok (.aload_n 0, 1) := by decide +kernel
theorem dX7_rings_6 : decode cX7_rings 6 = .ok (.getfield 9, 3) := by decide +kernel
theorem dX7_rings_9 : decode cX7_rings 9 = .ok (.iconst 2, 1) := by decide +kernel
theorem dX7_rings_10 : decode cX7_rings 10 = .ok (.iaload, 1) := by decide +kernel
theorem dX7_rings_11 : decode cX7_rings 11 = .ok (.if_icmp .ge 28, 3) := by decide +kernel
theorem dX7_rings_14 : decode cX7_rings 14 = .ok (.iload_n 1, 1) := by decide +kernel
theorem dX7_rings_15 : decode cX7_rings 15 = .ok (.aload_n 0, 1) := by decide +kernel
theorem dX7_rings_16 : decode cX7_rings 16 = .ok (.iload_n 2, 1) := by decide +kernel
theorem dX7_rings_17 : decode cX7_rings 17 = .ok (.iload_n 2, 1) := by decide +kernel
theorem dX7_rings_18 : decode cX7_rings 18 = .ok (.invokevirtual 99, 3) := by decide +kernel
theorem dX7_rings_21 : decode cX7_rings 21 = .ok (.ifCond .eq 9, 3) := by decide +kernel
theorem dX7_rings_24 : decode cX7_rings 24 = .ok (.iconst 1, 1) := by decide +kernel
theorem dX7_rings_25 : decode cX7_rings 25 = .ok (.iload_n 2, 1) := by decide +kernel
theorem dX7_rings_26 : decode cX7_rings 26 = .ok (.ishl, 1) := by decide +kernel
theorem dX7_rings_27 : decode cX7_rings 27 = .ok (.goto 4, 3) := by decide +kernel
theorem dX7_rings_30 : decode cX7_rings 30 = .ok (.iconst 0, 1) := by decide +kernel
theorem dX7_rings_31 : decode cX7_rings 31 = .ok (.ior, 1) := by decide +kernel
theorem dX7_rings_32 : decode cX7_rings 32 = .ok (.istore_n 1, 1) := by decide +kernel
theorem dX7_rings_33 : decode cX7_rings 33 = .ok (.iinc 2 1, 3) := by decide +kernel
theorem dX7_rings_36 : decode cX7_rings 36 = .ok (.goto (-32), 3) := by decide +kernel
theorem dX7_rings_39 : decode cX7_rings 39 = .ok (.iload_n 1, 1) := by decide +kernel
theorem dX7_rings_40 : decode cX7_rings 40 = .ok (.ireturn, 1) := by decide +kernel
theorem dX7_waits_0 : decode cX7_waits 0 = .ok (.aload_n 0, 1) := by decide +kernel
theorem dX7_waits_1 : decode cX7_waits 1 = .ok (.iload_n 1, 1) := by decide +kernel
theorem dX7_waits_2 : decode cX7_waits 2 = .ok (.invokevirtual 91, 3) := by decide +kernel
theorem dX7_waits_5 : decode cX7_waits 5 = .ok (.ifCond .ne 10, 3) := by decide +kernel
theorem dX7_waits_8 : decode cX7_waits 8 = .ok (.aload_n 0, 1) := by decide +kernel
theorem dX7_waits_9 : decode cX7_waits 9 = .ok (.ldc 43, 2) := by decide +kernel
theorem dX7_waits_11 : decode cX7_waits 11 = .ok (.invokevirtual 45, 3) := by decide +kernel
theorem dX7_waits_14 : decode cX7_waits 14 = .ok (.ireturn, 1) := by decide +kernel
theorem dX7_waits_15 : decode cX7_waits 15 = .ok (.iconst 0, 1) := by decide +kernel
theorem dX7_waits_16 : decode cX7_waits 16 = .ok (.istore_n 2, 1) := by decide +kernel
theorem dX7_waits_17 : decode cX7_waits 17 = .ok (.iconst 0, 1) := by decide +kernel
theorem dX7_waits_18 : decode cX7_waits 18 = .ok (.istore_n 3, 1) := by decide +kernel
theorem dX7_waits_19 : decode cX7_waits 19 = .ok (.iload_n 3, 1) := by decide +kernel
theorem dX7_waits_20 : decode cX7_waits 20 = .ok (.aload_n 0, 1) := by decide +kernel
theorem dX7_waits_21 : decode cX7_waits 21 = .ok (.getfield 9, 3) := by decide +kernel
theorem dX7_waits_24 : decode cX7_waits 24 = .ok (.iconst 2, 1) := by decide +kernel
theorem dX7_waits_25 : decode cX7_waits 25 = .ok (.iaload, 1) := by decide +kernel
theorem dX7_waits_26 : decode cX7_waits 26 = .ok (.if_icmp .ge 28, 3) := by decide +kernel
theorem dX7_waits_29 : decode cX7_waits 29 = .ok (.iload_n 2, 1) := by decide +kernel
theorem dX7_waits_30 : decode cX7_waits 30 = .ok (.aload_n 0, 1) := by decide +kernel
theorem dX7_waits_31 : decode cX7_waits 31 = .ok (.iload_n 3, 1) := by decide +kernel
theorem dX7_waits_32 : decode cX7_waits 32 = .ok (.iload_n 1, 1) := by decide +kernel
theorem dX7_waits_33 : decode cX7_waits 33 = .ok (.invokevirtual 99, 3) := by decide +kernel
theorem dX7_waits_36 : decode cX7_waits 36 = .ok (.ifCond .eq 9, 3) := by decide +kernel
theorem dX7_waits_39 : decode cX7_waits 39 = .ok (.iconst 1, 1) := by decide +kernel
theorem dX7_waits_40 : decode cX7_waits 40 = .ok (.iload_n 3, 1) := by decide +kernel
theorem dX7_waits_41 : decode cX7_waits 41 = .ok (.ishl, 1) := by decide +kernel
theorem dX7_waits_42 : decode cX7_waits 42 = .ok (.goto 4, 3) := by decide +kernel
theorem dX7_waits_45 : decode cX7_waits 45 = .ok (.iconst 0, 1) := by decide +kernel
theorem dX7_waits_46 : decode cX7_waits 46 = .ok (.ior, 1) := by decide +kernel
theorem dX7_waits_47 : decode cX7_waits 47 = .ok (.istore_n 2, 1) := by decide +kernel
theorem dX7_waits_48 : decode cX7_waits 48 = .ok (.iinc 3 1, 3) := by decide +kernel
theorem dX7_waits_51 : decode cX7_waits 51 = .ok (.goto (-32), 3) := by decide +kernel
theorem dX7_waits_54 : decode cX7_waits 54 = .ok (.iload_n 2, 1) := by decide +kernel
theorem dX7_waits_55 : decode cX7_waits 55 = .ok (.ireturn, 1) := by decide +kernel
theorem dX7_isBorn_0 : decode cX7_isBorn 0 = .ok (.bipush 100, 2) := by decide +kernel
theorem dX7_isBorn_2 : decode cX7_isBorn 2 = .ok (.iconst 4, 1) := by decide +kernel
theorem dX7_isBorn_3 : decode cX7_isBorn 3 = .ok (.aload_n 0, 1) := by decide +kernel
theorem dX7_isBorn_4 : decode cX7_isBorn 4 = .ok (.getfield 9, 3) := by decide +kernel
theorem dX7_isBorn_7 : decode cX7_isBorn 7 = .ok (.iconst 3, 1) := by decide +kernel
theorem dX7_isBorn_8 : decode cX7_isBorn 8 = .ok (.iaload, 1) := by decide +kernel
theorem dX7_isBorn_9 : decode cX7_isBorn 9 = .ok (.imul, 1) := by decide +kernel
theorem dX7_isBorn_10 : decode cX7_isBorn 10 = .ok (.iadd, 1) := by decide +kernel
theorem dX7_isBorn_11 : decode cX7_isBorn 11 = .ok (.istore 4, 2) := by decide +kernel
theorem dX7_isBorn_13 : decode cX7_isBorn 13 = .ok (.aload_n 0, 1) := by decide +kernel
theorem dX7_isBorn_14 : decode cX7_isBorn 14 = .ok (.getfield 9, 3) := by decide +kernel
theorem dX7_isBorn_17 : decode cX7_isBorn 17 = .ok (.iload 4, 2) := by decide +kernel
theorem dX7_isBorn_19 : decode cX7_isBorn 19 = .ok (.iload_n 3, 1) := by decide +kernel
theorem dX7_isBorn_20 : decode cX7_isBorn 20 = .ok (.iastore, 1) := by decide +kernel
theorem dX7_isBorn_21 : decode cX7_isBorn 21 = .ok (.aload_n 0, 1) := by decide +kernel
theorem dX7_isBorn_22 : decode cX7_isBorn 22 = .ok (.getfield 9, 3) := by decide +kernel
theorem dX7_isBorn_25 : decode cX7_isBorn 25 = .ok (.iload 4, 2) := by decide +kernel
theorem dX7_isBorn_27 : decode cX7_isBorn 27 = .ok (.iconst 1, 1) := by decide +kernel
theorem dX7_isBorn_28 : decode cX7_isBorn 28 = .ok (.iadd, 1) := by decide +kernel
theorem dX7_isBorn_29 : decode cX7_isBorn 29 = .ok (.iload_n 2, 1) := by decide +kernel
theorem dX7_isBorn_30 : decode cX7_isBorn 30 = .ok (.iastore, 1) := by decide +kernel
theorem dX7_isBorn_31 : decode cX7_isBorn 31 = .ok (.aload_n 0, 1) := by decide +kernel
theorem dX7_isBorn_32 : decode cX7_isBorn 32 = .ok (.getfield 9, 3) := by decide +kernel
theorem dX7_isBorn_35 : decode cX7_isBorn 35 = .ok (.iload 4, 2) := by decide +kernel
theorem dX7_isBorn_37 : decode cX7_isBorn 37 = .ok (.iconst 2, 1) := by decide +kernel
theorem dX7_isBorn_38 : decode cX7_isBorn 38 = .ok (.iadd, 1) := by decide +kernel
theorem dX7_isBorn_39 : decode cX7_isBorn 39 = .ok (.iload_n 1, 1) := by decide +kernel
theorem dX7_isBorn_40 : decode cX7_isBorn 40 = .ok (.iastore, 1) := by decide +kernel
theorem dX7_isBorn_41 : decode cX7_isBorn 41 = .ok (.aload_n 0, 1) := by decide +kernel
theorem dX7_isBorn_42 : decode cX7_isBorn 42 = .ok (.getfield 9, 3) := by decide +kernel
theorem dX7_isBorn_45 : decode cX7_isBorn 45 = .ok (.iload 4, 2) := by decide +kernel
theorem dX7_isBorn_47 : decode cX7_isBorn 47 = .ok (.iconst 3, 1) := by decide +kernel
theorem dX7_isBorn_48 : decode cX7_isBorn 48 = .ok (.iadd, 1) := by decide +kernel
theorem dX7_isBorn_49 : decode cX7_isBorn 49 = .ok (.iconst (-1), 1) := by decide +kernel
theorem dX7_isBorn_50 : decode cX7_isBorn 50 = .ok (.iastore, 1) := by decide +kernel
theorem dX7_isBorn_51 : decode cX7_isBorn 51 = .ok (.aload_n 0, 1) := by decide +kernel
theorem dX7_isBorn_52 : decode cX7_isBorn 52 = .ok (.getfield 9, 3) := by decide +kernel
theorem dX7_isBorn_55 : decode cX7_isBorn 55 = .ok (.iconst 3, 1) := by decide +kernel
theorem dX7_isBorn_56 : decode cX7_isBorn 56 = .ok (.dup2, 1) := by decide +kernel
theorem dX7_isBorn_57 : decode cX7_isBorn 57 = .ok (.iaload, 1) := by decide +kernel
theorem dX7_isBorn_58 : decode cX7_isBorn 58 = .ok (.iconst 1, 1) := by decide +kernel
theorem dX7_isBorn_59 : decode cX7_isBorn 59 = .ok (.iadd, 1) := by decide +kernel
theorem dX7_isBorn_60 : decode cX7_isBorn 60 = .ok (.iastore, 1) := by decide +kernel
theorem dX7_isBorn_61 : decode cX7_isBorn 61 = .ok (.return_, 1) := by decide +kernel
theorem dX7_person_0 : decode cX7_person 0 = .ok (.iload_n 1, 1) := by decide +kernel
theorem dX7_person_1 : decode cX7_person 1 = .ok (.invokestatic 116, 3) := by decide +kernel
theorem dX7_person_4 : decode cX7_person 4 = .ok (.ifCond .ne 10, 3) := by decide +kernel
theorem dX7_person_7 : decode cX7_person 7 = .ok (.aload_n 0, 1) := by decide +kernel
theorem dX7_person_8 : decode cX7_person 8 = .ok (.ldc 43, 2) := by decide +kernel
theorem dX7_person_10 : decode cX7_person 10 = .ok (.invokevirtual 45, 3) := by decide +kernel
theorem dX7_person_13 : decode cX7_person 13 = .ok (.ireturn, 1) := by decide +kernel
theorem dX7_person_14 : decode cX7_person 14 = .ok (.aload_n 0, 1) := by decide +kernel
theorem dX7_person_15 : decode cX7_person 15 = .ok (.getfield 9, 3) := by decide +kernel
theorem dX7_person_18 : decode cX7_person 18 = .ok (.iconst 3, 1) := by decide +kernel
theorem dX7_person_19 : decode cX7_person 19 = .ok (.iaload, 1) := by decide +kernel
theorem dX7_person_20 : decode cX7_person 20 = .ok (.bipush 8, 2) := by decide +kernel
theorem dX7_person_22 : decode cX7_person 22 = .ok (.if_icmp .ne 10, 3) := by decide +kernel
theorem dX7_person_25 : decode cX7_person 25 = .ok (.aload_n 0, 1) := by decide +kernel
theorem dX7_person_26 : decode cX7_person 26 = .ok (.ldc 80, 2) := by decide +kernel
theorem dX7_person_28 : decode cX7_person 28 = .ok (.invokevirtual 45, 3) := by decide +kernel
theorem dX7_person_31 : decode cX7_person 31 = .ok (.ireturn, 1) := by decide +kernel
theorem dX7_person_32 : decode cX7_person 32 = .ok (.aload_n 0, 1) := by decide +kernel
theorem dX7_person_33 : decode cX7_person 33 = .ok (.iload_n 1, 1) := by decide +kernel
theorem dX7_person_34 : decode cX7_person 34 = .ok (.iconst 0, 1) := by decide +kernel
theorem dX7_person_35 : decode cX7_person 35 = .ok (.iconst (-1), 1) := by decide +kernel
theorem dX7_person_36 : decode cX7_person 36 = .ok (.invokevirtual 119, 3) := by decide +kernel
theorem dX7_person_39 : decode cX7_person 39 = .ok (.aload_n 0, 1) := by decide +kernel
theorem dX7_person_40 : decode cX7_person 40 = .ok (.getfield 9, 3) := by decide +kernel
theorem dX7_person_43 : decode cX7_person 43 = .ok (.iconst 3, 1) := by decide +kernel
theorem dX7_person_44 : decode cX7_person 44 = .ok (.iaload, 1) := by decide +kernel
theorem dX7_person_45 : decode cX7_person 45 = .ok (.iconst 1, 1) := by decide +kernel
theorem dX7_person_46 : decode cX7_person 46 = .ok (.isub, 1) := by decide +kernel
theorem dX7_person_47 : decode cX7_person 47 = .ok (.ireturn, 1) := by decide +kernel
theorem dX7_of_0 : decode cX7_of 0 = .ok (.aload_n 0, 1) := by decide +kernel
theorem dX7_of_1 : decode cX7_of 1 = .ok (.iload_n 1, 1) := by decide +kernel
theorem dX7_of_2 : decode cX7_of 2 = .ok (.invokevirtual 123, 3) := by decide +kernel
theorem dX7_of_5 : decode cX7_of 5 = .ok (.ifCond .eq 24, 3) := by decide +kernel
theorem dX7_of_8 : decode cX7_of 8 = .ok (.iload_n 2, 1) := by decide +kernel
theorem dX7_of_9 : decode cX7_of 9 = .ok (.i2l, 1) := by decide +kernel
theorem dX7_of_10 : decode cX7_of 10 = .ok (.lconst 0, 1) := by decide +kernel
theorem dX7_of_11 : decode cX7_of 11 = .ok (.ldc2_w 126, 3) := by decide +kernel
theorem dX7_of_14 : decode cX7_of 14 = .ok (.invokestatic 51, 3) := by decide +kernel
theorem dX7_of_17 : decode cX7_of 17 = .ok (.ifCond .eq 12, 3) := by decide +kernel
theorem dX7_of_20 : decode cX7_of 20 = .ok (.aload_n 0, 1) := by decide +kernel
theorem dX7_of_21 : decode cX7_of 21 = .ok (.iload_n 1, 1) := by decide +kernel
theorem dX7_of_22 : decode cX7_of 22 = .ok (.iload_n 2, 1) := by decide +kernel
theorem dX7_of_23 : decode cX7_of 23 = .ok (.invokevirtual 63, 3) := by decide +kernel
theorem dX7_of_26 : decode cX7_of 26 = .ok (.goto 9, 3) := by decide +kernel
theorem dX7_of_29 : decode cX7_of 29 = .ok (.aload_n 0, 1) := by decide +kernel
theorem dX7_of_30 : decode cX7_of 30 = .ok (.ldc 43, 2) := by decide +kernel
theorem dX7_of_32 : decode cX7_of 32 = .ok (.invokevirtual 45, 3) := by decide +kernel
theorem dX7_of_35 : decode cX7_of 35 = .ok (.ireturn, 1) := by decide +kernel
theorem dX7_change_0 : decode cX7_change 0 = .ok (.iload_n 2, 1) := by decide +kernel
theorem dX7_change_1 : decode cX7_change 1 = .ok (.iconst 1, 1) := by decide +kernel
theorem dX7_change_2 : decode cX7_change 2 = .ok (.if_icmp .ne 15, 3) := by decide +kernel
theorem dX7_change_5 : decode cX7_change 5 = .ok (.iload_n 3, 1) := by decide +kernel
theorem dX7_change_6 : decode cX7_change 6 = .ok (.i2l, 1) := by decide +kernel
theorem dX7_change_7 : decode cX7_change 7 = .ok (.lconst 0, 1) := by decide +kernel
theorem dX7_change_8 : decode cX7_change 8 = .ok (.ldc2_w 128, 3) := by decide +kernel
theorem dX7_change_11 : decode cX7_change 11 = .ok (.invokestatic 51, 3) := by decide +kernel
theorem dX7_change_14 : decode cX7_change 14 = .ok (.goto 20, 3) := by decide +kernel
theorem dX7_change_17 : decode cX7_change 17 = .ok (.iload_n 2, 1) := by decide +kernel
theorem dX7_change_18 : decode cX7_change 18 = .ok (.iconst 2, 1) := by decide +kernel
theorem dX7_change_19 : decode cX7_change 19 = .ok (.if_icmp .ne 14, 3) := by decide +kernel
theorem dX7_change_22 : decode cX7_change 22 = .ok (.iload_n 3, 1) := by decide +kernel
theorem dX7_change_23 : decode cX7_change 23 = .ok (.invokestatic 116, 3) := by decide +kernel
theorem dX7_change_26 : decode cX7_change 26 = .ok (.ifCond .eq 7, 3) := by decide +kernel
theorem dX7_change_29 : decode cX7_change 29 = .ok (.iconst 1, 1) := by decide +kernel
theorem dX7_change_30 : decode cX7_change 30 = .ok (.goto 4, 3) := by decide +kernel
theorem dX7_change_33 : decode cX7_change 33 = .ok (.iconst 0, 1) := by decide +kernel
theorem dX7_change_34 : decode cX7_change 34 = .ok (.istore 4, 2) := by decide +kernel
theorem dX7_change_36 : decode cX7_change 36 = .ok (.aload_n 0, 1) := by decide +kernel
theorem dX7_change_37 : decode cX7_change 37 = .ok (.iload_n 1, 1) := by decide +kernel
theorem dX7_change_38 : decode cX7_change 38 = .ok (.invokevirtual 123, 3) := by decide +kernel
theorem dX7_change_41 : decode cX7_change 41 = .ok (.ifCond .eq 24, 3) := by decide +kernel
theorem dX7_change_44 : decode cX7_change 44 = .ok (.iload 4, 2) := by decide +kernel
theorem dX7_change_46 : decode cX7_change 46 = .ok (.ifCond .eq 19, 3) := by decide +kernel
theorem dX7_change_49 : decode cX7_change 49 = .ok (.aload_n 0, 1) := by decide +kernel
theorem dX7_change_50 : decode cX7_change 50 = .ok (.bipush 100, 2) := by decide +kernel
theorem dX7_change_52 : decode cX7_change 52 = .ok (.iconst 4, 1) := by decide +kernel
theorem dX7_change_53 : decode cX7_change 53 = .ok (.iload_n 1, 1) := by decide +kernel
theorem dX7_change_54 : decode cX7_change 54 = .ok (.imul, 1) := by decide +kernel
theorem dX7_change_55 : decode cX7_change 55 = .ok (.iadd, 1) := by decide +kernel
theorem dX7_change_56 : decode cX7_change 56 = .ok (.iload_n 2, 1) := by decide +kernel
theorem dX7_change_57 : decode cX7_change 57 = .ok (.iadd, 1) := by decide +kernel
theorem dX7_change_58 : decode cX7_change 58 = .ok (.iload_n 3, 1) := by decide +kernel
theorem dX7_change_59 : decode cX7_change 59 = .ok (.invokevirtual 72, 3) := by decide +kernel
theorem dX7_change_62 : decode cX7_change 62 = .ok (.goto 9, 3) := by decide +kernel
theorem dX7_change_65 : decode cX7_change 65 = .ok (.aload_n 0, 1) := by decide +kernel
theorem dX7_change_66 : decode cX7_change 66 = .ok (.ldc 43, 2) := by decide +kernel
theorem dX7_change_68 : decode cX7_change 68 = .ok (.invokevirtual 45, 3) := by decide +kernel
theorem dX7_change_71 : decode cX7_change 71 = .ok (.ireturn, 1) := by decide +kernel
theorem dX7_helps_0 : decode cX7_helps 0 = .ok (.aload_n 0, 1) := by decide +kernel
theorem dX7_helps_1 : decode cX7_helps 1 = .ok (.iload_n 1, 1) := by decide +kernel
theorem dX7_helps_2 : decode cX7_helps 2 = .ok (.invokevirtual 123, 3) := by decide +kernel
theorem dX7_helps_5 : decode cX7_helps 5 = .ok (.ifCond .eq 25, 3) := by decide +kernel
theorem dX7_helps_8 : decode cX7_helps 8 = .ok (.iload_n 2, 1) := by decide +kernel
theorem dX7_helps_9 : decode cX7_helps 9 = .ok (.iconst (-1), 1) := by decide +kernel
theorem dX7_helps_10 : decode cX7_helps 10 = .ok (.if_icmp .eq 16, 3) := by decide +kernel
theorem dX7_helps_13 : decode cX7_helps 13 = .ok (.aload_n 0, 1) := by decide +kernel
theorem dX7_helps_14 : decode cX7_helps 14 = .ok (.iload_n 2, 1) := by decide +kernel
theorem dX7_helps_15 : decode cX7_helps 15 = .ok (.invokevirtual 123, 3) := by decide +kernel
theorem dX7_helps_18 : decode cX7_helps 18 = .ok (.ifCond .eq 12, 3) := by decide +kernel
theorem dX7_helps_21 : decode cX7_helps 21 = .ok (.iload_n 2, 1) := by decide +kernel
theorem dX7_helps_22 : decode cX7_helps 22 = .ok (.iload_n 1, 1) := by decide +kernel
theorem dX7_helps_23 : decode cX7_helps 23 = .ok (.if_icmp .eq 7, 3) := by decide +kernel
theorem dX7_helps_26 : decode cX7_helps 26 = .ok (.iconst 1, 1) := by decide +kernel
theorem dX7_helps_27 : decode cX7_helps 27 = .ok (.goto 4, 3) := by decide +kernel
theorem dX7_helps_30 : decode cX7_helps 30 = .ok (.iconst 0, 1) := by decide +kernel
theorem dX7_helps_31 : decode cX7_helps 31 = .ok (.istore_n 3, 1) := by decide +kernel
theorem dX7_helps_32 : decode cX7_helps 32 = .ok (.iload_n 3, 1) := by decide +kernel
theorem dX7_helps_33 : decode cX7_helps 33 = .ok (.ifCond .eq 19, 3) := by decide +kernel
theorem dX7_helps_36 : decode cX7_helps 36 = .ok (.aload_n 0, 1) := by decide +kernel
theorem dX7_helps_37 : decode cX7_helps 37 = .ok (.bipush 100, 2) := by decide +kernel
theorem dX7_helps_39 : decode cX7_helps 39 = .ok (.iconst 4, 1) := by decide +kernel
theorem dX7_helps_40 : decode cX7_helps 40 = .ok (.iload_n 1, 1) := by decide +kernel
theorem dX7_helps_41 : decode cX7_helps 41 = .ok (.imul, 1) := by decide +kernel
theorem dX7_helps_42 : decode cX7_helps 42 = .ok (.iadd, 1) := by decide +kernel
theorem dX7_helps_43 : decode cX7_helps 43 = .ok (.iconst 3, 1) := by decide +kernel
theorem dX7_helps_44 : decode cX7_helps 44 = .ok (.iadd, 1) := by decide +kernel
theorem dX7_helps_45 : decode cX7_helps 45 = .ok (.iload_n 2, 1) := by decide +kernel
theorem dX7_helps_46 : decode cX7_helps 46 = .ok (.invokevirtual 72, 3) := by decide +kernel
theorem dX7_helps_49 : decode cX7_helps 49 = .ok (.goto 9, 3) := by decide +kernel
theorem dX7_helps_52 : decode cX7_helps 52 = .ok (.aload_n 0, 1) := by decide +kernel
theorem dX7_helps_53 : decode cX7_helps 53 = .ok (.ldc 43, 2) := by decide +kernel
theorem dX7_helps_55 : decode cX7_helps 55 = .ok (.invokevirtual 45, 3) := by decide +kernel
theorem dX7_helps_58 : decode cX7_helps 58 = .ok (.ireturn, 1) := by decide +kernel
theorem dX7_wrongTake_0 : decode cX7_wrongTake 0 = .ok (.aload_n 0, 1) := by decide +kernel
theorem dX7_wrongTake_1 : decode cX7_wrongTake 1 = .ok (.iload_n 1, 1) := by decide +kernel
theorem dX7_wrongTake_2 : decode cX7_wrongTake 2 = .ok (.invokevirtual 123, 3) := by decide +kernel
theorem dX7_wrongTake_5 : decode cX7_wrongTake 5 = .ok (.ifCond .eq 15, 3) := by decide +kernel
theorem dX7_wrongTake_8 : decode cX7_wrongTake 8 = .ok (.iload_n 2, 1) := by decide +kernel
theorem dX7_wrongTake_9 : decode cX7_wrongTake 9 = .ok (.iconst (-1), 1) := by decide +kernel
theorem dX7_wrongTake_10 : decode cX7_wrongTake 10 = .ok (.if_icmp .eq 13, 3) := by decide +kernel
theorem dX7_wrongTake_13 : decode cX7_wrongTake 13 = .ok (.iload_n 2, 1) := by decide +kernel
theorem dX7_wrongTake_14 : decode cX7_wrongTake 14 = .ok (.invokestatic 66, 3) := by decide +kernel
theorem dX7_wrongTake_17 : decode cX7_wrongTake 17 = .ok (.ifCond .ne 6, 3) := by decide +kernel
theorem dX7_wrongTake_20 : decode cX7_wrongTake 20 = .ok (.ldc 43, 2) := by decide +kernel
theorem dX7_wrongTake_22 : decode cX7_wrongTake 22 = .ok (.ireturn, 1) := by decide +kernel
theorem dX7_wrongTake_23 : decode cX7_wrongTake 23 = .ok (.iload_n 2, 1) := by decide +kernel
theorem dX7_wrongTake_24 : decode cX7_wrongTake 24 = .ok (.ifCond .ge 5, 3) := by decide +kernel
theorem dX7_wrongTake_27 : decode cX7_wrongTake 27 = .ok (.iconst 0, 1) := by decide +kernel
theorem dX7_wrongTake_28 : decode cX7_wrongTake 28 = .ok (.ireturn, 1) := by decide +kernel
theorem dX7_wrongTake_29 : decode cX7_wrongTake 29 = .ok (.aload_n 0, 1) := by decide +kernel
theorem dX7_wrongTake_30 : decode cX7_wrongTake 30 = .ok (.iload_n 2, 1) := by decide +kernel
theorem dX7_wrongTake_31 : decode cX7_wrongTake 31 = .ok (.invokevirtual 106, 3) := by decide +kernel
theorem dX7_wrongTake_34 : decode cX7_wrongTake 34 = .ok (.istore_n 3, 1) := by decide +kernel
theorem dX7_wrongTake_35 : decode cX7_wrongTake 35 = .ok (.iload_n 3, 1) := by decide +kernel
theorem dX7_wrongTake_36 : decode cX7_wrongTake 36 = .ok (.ifCond .lt 8, 3) := by decide +kernel
theorem dX7_wrongTake_39 : decode cX7_wrongTake 39 = .ok (.iload_n 3, 1) := by decide +kernel
theorem dX7_wrongTake_40 : decode cX7_wrongTake 40 = .ok (.iload_n 1, 1) := by decide +kernel
theorem dX7_wrongTake_41 : decode cX7_wrongTake 41 = .ok (.if_icmp .ne 14, 3) := by decide +kernel
theorem dX7_wrongTake_44 : decode cX7_wrongTake 44 = .ok (.aload_n 0, 1) := by decide +kernel
theorem dX7_wrongTake_45 : decode cX7_wrongTake 45 = .ok (.iload_n 1, 1) := by decide +kernel
theorem dX7_wrongTake_46 : decode cX7_wrongTake 46 = .ok (.iconst 1, 1) := by decide +kernel
theorem dX7_wrongTake_47 : decode cX7_wrongTake 47 = .ok (.invokevirtual 63, 3) := by decide +kernel
theorem dX7_wrongTake_50 : decode cX7_wrongTake 50 = .ok (.bipush 40, 2) := by decide +kernel
theorem dX7_wrongTake_52 : decode cX7_wrongTake 52 = .ok (.if_icmp .ne 8, 3) := by decide +kernel
theorem dX7_wrongTake_55 : decode cX7_wrongTake 55 = .ok (.ldc 130, 2) := by decide +kernel
theorem dX7_wrongTake_57 : decode cX7_wrongTake 57 = .ok (.goto 4, 3) := by decide +kernel
theorem dX7_wrongTake_60 : decode cX7_wrongTake 60 = .ok (.iconst 0, 1) := by decide +kernel
theorem dX7_wrongTake_61 : decode cX7_wrongTake 61 = .ok (.ireturn, 1) := by decide +kernel
theorem dX7_take_0 : decode cX7_take 0 = .ok (.aload_n 0, 1) := by decide +kernel
theorem dX7_take_1 : decode cX7_take 1 = .ok (.iload_n 1, 1) := by decide +kernel
theorem dX7_take_2 : decode cX7_take 2 = .ok (.iload_n 2, 1) := by decide +kernel
theorem dX7_take_3 : decode cX7_take 3 = .ok (.invokevirtual 131, 3) := by decide +kernel
theorem dX7_take_6 : decode cX7_take 6 = .ok (.istore_n 3, 1) := by decide +kernel
theorem dX7_take_7 : decode cX7_take 7 = .ok (.iload_n 3, 1) := by decide +kernel
theorem dX7_take_8 : decode cX7_take 8 = .ok (.ifCond .ge 11, 3) := by decide +kernel
theorem dX7_take_11 : decode cX7_take 11 = .ok (.aload_n 0, 1) := by decide +kernel
theorem dX7_take_12 : decode cX7_take 12 = .ok (.iload_n 3, 1) := by decide +kernel
theorem dX7_take_13 : decode cX7_take 13 = .ok (.invokevirtual 45, 3) := by decide +kernel
theorem dX7_take_16 : decode cX7_take 16 = .ok (.goto 14, 3) := by decide +kernel
theorem dX7_take_19 : decode cX7_take 19 = .ok (.aload_n 0, 1) := by decide +kernel
theorem dX7_take_20 : decode cX7_take 20 = .ok (.bipush 100, 2) := by decide +kernel
theorem dX7_take_22 : decode cX7_take 22 = .ok (.iconst 4, 1) := by decide +kernel
theorem dX7_take_23 : decode cX7_take 23 = .ok (.iload_n 1, 1) := by decide +kernel
theorem dX7_take_24 : decode cX7_take 24 = .ok (.imul, 1) := by decide +kernel
theorem dX7_take_25 : decode cX7_take 25 = .ok (.iadd, 1) := by decide +kernel
theorem dX7_take_26 : decode cX7_take 26 = .ok (.iload_n 2, 1) := by decide +kernel
theorem dX7_take_27 : decode cX7_take 27 = .ok (.invokevirtual 72, 3) := by decide +kernel
theorem dX7_take_30 : decode cX7_take 30 = .ok (.ireturn, 1) := by decide +kernel
theorem dX7_exchange_0 : decode cX7_exchange 0 = .ok (.aload_n 0, 1) := by decide +kernel
theorem dX7_exchange_1 : decode cX7_exchange 1 = .ok (.iload_n 1, 1) := by decide +kernel
theorem dX7_exchange_2 : decode cX7_exchange 2 = .ok (.invokevirtual 123, 3) := by decide +kernel
theorem dX7_exchange_5 : decode cX7_exchange 5 = .ok (.ifCond .eq 16, 3) := by decide +kernel
theorem dX7_exchange_8 : decode cX7_exchange 8 = .ok (.aload_n 0, 1) := by decide +kernel
theorem dX7_exchange_9 : decode cX7_exchange 9 = .ok (.iload_n 2, 1) := by decide +kernel
theorem dX7_exchange_10 : decode cX7_exchange 10 = .ok (.invokevirtual 123, 3) := by decide +kernel
theorem dX7_exchange_13 : decode cX7_exchange 13 = .ok (.ifCond .eq 8, 3) := by decide +kernel
theorem dX7_exchange_16 : decode cX7_exchange 16 = .ok (.iload_n 1, 1) := by decide +kernel
theorem dX7_exchange_17 : decode cX7_exchange 17 = .ok (.iload_n 2, 1) := by decide +kernel
theorem dX7_exchange_18 : decode cX7_exchange 18 = .ok (.if_icmp .ne 10, 3) := by decide +kernel
theorem dX7_exchange_21 : decode cX7_exchange 21 = .ok (.aload_n 0, 1) := by decide +kernel
theorem dX7_exchange_22 : decode cX7_exchange 22 = .ok (.ldc 43, 2) := by decide +kernel
theorem dX7_exchange_24 : decode cX7_exchange 24 = .ok (.invokevirtual 45, 3) := by decide +kernel
theorem dX7_exchange_27 : decode cX7_exchange 27 = .ok (.ireturn, 1) := by decide +kernel
theorem dX7_exchange_28 : decode cX7_exchange 28 = .ok (.aload_n 0, 1) := by decide +kernel
theorem dX7_exchange_29 : decode cX7_exchange 29 = .ok (.iload_n 1, 1) := by decide +kernel
theorem dX7_exchange_30 : decode cX7_exchange 30 = .ok (.iconst 1, 1) := by decide +kernel
theorem dX7_exchange_31 : decode cX7_exchange 31 = .ok (.invokevirtual 63, 3) := by decide +kernel
theorem dX7_exchange_34 : decode cX7_exchange 34 = .ok (.bipush 40, 2) := by decide +kernel
theorem dX7_exchange_36 : decode cX7_exchange 36 = .ok (.if_icmp .eq 14, 3) := by decide +kernel
theorem dX7_exchange_39 : decode cX7_exchange 39 = .ok (.aload_n 0, 1) := by decide +kernel
theorem dX7_exchange_40 : decode cX7_exchange 40 = .ok (.iload_n 2, 1) := by decide +kernel
theorem dX7_exchange_41 : decode cX7_exchange 41 = .ok (.iconst 1, 1) := by decide +kernel
theorem dX7_exchange_42 : decode cX7_exchange 42 = .ok (.invokevirtual 63, 3) := by decide +kernel
theorem dX7_exchange_45 : decode cX7_exchange 45 = .ok (.bipush 40, 2) := by decide +kernel
theorem dX7_exchange_47 : decode cX7_exchange 47 = .ok (.if_icmp .ne 10, 3) := by decide +kernel
theorem dX7_exchange_50 : decode cX7_exchange 50 = .ok (.aload_n 0, 1) := by decide +kernel
theorem dX7_exchange_51 : decode cX7_exchange 51 = .ok (.ldc 130, 2) := by decide +kernel
theorem dX7_exchange_53 : decode cX7_exchange 53 = .ok (.invokevirtual 45, 3) := by decide +kernel
theorem dX7_exchange_56 : decode cX7_exchange 56 = .ok (.ireturn, 1) := by decide +kernel
theorem dX7_exchange_57 : decode cX7_exchange 57 = .ok (.aload_n 0, 1) := by decide +kernel
theorem dX7_exchange_58 : decode cX7_exchange 58 = .ok (.getfield 9, 3) := by decide +kernel
theorem dX7_exchange_61 : decode cX7_exchange 61 = .ok (.bipush 100, 2) := by decide +kernel
theorem dX7_exchange_63 : decode cX7_exchange 63 = .ok (.iconst 4, 1) := by decide +kernel
theorem dX7_exchange_64 : decode cX7_exchange 64 = .ok (.iload_n 2, 1) := by decide +kernel
theorem dX7_exchange_65 : decode cX7_exchange 65 = .ok (.imul, 1) := by decide +kernel
theorem dX7_exchange_66 : decode cX7_exchange 66 = .ok (.iadd, 1) := by decide +kernel
theorem dX7_exchange_67 : decode cX7_exchange 67 = .ok (.aload_n 0, 1) := by decide +kernel
theorem dX7_exchange_68 : decode cX7_exchange 68 = .ok (.bipush 100, 2) := by decide +kernel
theorem dX7_exchange_70 : decode cX7_exchange 70 = .ok (.iconst 4, 1) := by decide +kernel
theorem dX7_exchange_71 : decode cX7_exchange 71 = .ok (.iload_n 1, 1) := by decide +kernel
theorem dX7_exchange_72 : decode cX7_exchange 72 = .ok (.imul, 1) := by decide +kernel
theorem dX7_exchange_73 : decode cX7_exchange 73 = .ok (.iadd, 1) := by decide +kernel
theorem dX7_exchange_74 : decode cX7_exchange 74 = .ok (.aload_n 0, 1) := by decide +kernel
theorem dX7_exchange_75 : decode cX7_exchange 75 = .ok (.iload_n 2, 1) := by decide +kernel
theorem dX7_exchange_76 : decode cX7_exchange 76 = .ok (.iconst 0, 1) := by decide +kernel
theorem dX7_exchange_77 : decode cX7_exchange 77 = .ok (.invokevirtual 63, 3) := by decide +kernel
theorem dX7_exchange_80 : decode cX7_exchange 80 = .ok (.invokevirtual 72, 3) := by decide +kernel
theorem dX7_exchange_83 : decode cX7_exchange 83 = .ok (.iastore, 1) := by decide +kernel
theorem dX7_exchange_84 : decode cX7_exchange 84 = .ok (.iconst 1, 1) := by decide +kernel
theorem dX7_exchange_85 : decode cX7_exchange 85 = .ok (.ireturn, 1) := by decide +kernel
theorem dX7_draw_0 : decode cX7_draw 0 = .ok (.aload_n 0, 1) := by decide +kernel
theorem dX7_draw_1 : decode cX7_draw 1 = .ok (.getfield 9, 3) := by decide +kernel
theorem dX7_draw_4 : decode cX7_draw 4 = .ok (.iconst 1, 1) := by decide +kernel
theorem dX7_draw_5 : decode cX7_draw 5 = .ok (.aload_n 0, 1) := by decide +kernel
theorem dX7_draw_6 : decode cX7_draw 6 = .ok (.getfield 9, 3) := by decide +kernel
theorem dX7_draw_9 : decode cX7_draw 9 = .ok (.iconst 1, 1) := by decide +kernel
theorem dX7_draw_10 : decode cX7_draw 10 = .ok (.iaload, 1) := by decide +kernel
theorem dX7_draw_11 : decode cX7_draw 11 = .ok (.ldc 134, 2) := by decide +kernel
theorem dX7_draw_13 : decode cX7_draw 13 = .ok (.imul, 1) := by decide +kernel
theorem dX7_draw_14 : decode cX7_draw 14 = .ok (.sipush 12345, 3) := by decide +kernel
theorem dX7_draw_17 : decode cX7_draw 17 = .ok (.iadd, 1) := by decide +kernel
theorem dX7_draw_18 : decode cX7_draw 18 = .ok (.iastore, 1) := by decide +kernel
theorem dX7_draw_19 : decode cX7_draw 19 = .ok (.aload_n 0, 1) := by decide +kernel
theorem dX7_draw_20 : decode cX7_draw 20 = .ok (.getfield 9, 3) := by decide +kernel
theorem dX7_draw_23 : decode cX7_draw 23 = .ok (.iconst 1, 1) := by decide +kernel
theorem dX7_draw_24 : decode cX7_draw 24 = .ok (.iaload, 1) := by decide +kernel
theorem dX7_draw_25 : decode cX7_draw 25 = .ok (.bipush 8, 2) := by decide +kernel
theorem dX7_draw_27 : decode cX7_draw 27 = .ok (.iushr, 1) := by decide +kernel
theorem dX7_draw_28 : decode cX7_draw 28 = .ok (.ireturn, 1) := by decide +kernel
theorem dX7_born_0 : decode cX7_born 0 = .ok (.iload_n 1, 1) := by decide +kernel
theorem dX7_born_1 : decode cX7_born 1 = .ok (.i2l, 1) := by decide +kernel
theorem dX7_born_2 : decode cX7_born 2 = .ok (.lconst 1, 1) := by decide +kernel
theorem dX7_born_3 : decode cX7_born 3 = .ok (.ldc2_w 135, 3) := by decide +kernel
theorem dX7_born_6 : decode cX7_born 6 = .ok (.invokestatic 51, 3) := by decide +kernel
theorem dX7_born_9 : decode cX7_born 9 = .ok (.ifCond .ne 10, 3) := by decide +kernel
theorem dX7_born_12 : decode cX7_born 12 = .ok (.aload_n 0, 1) := by decide +kernel
theorem dX7_born_13 : decode cX7_born 13 = .ok (.ldc 43, 2) := by decide +kernel
theorem dX7_born_15 : decode cX7_born 15 = .ok (.invokevirtual 45, 3) := by decide +kernel
theorem dX7_born_18 : decode cX7_born 18 = .ok (.ireturn, 1) := by decide +kernel
theorem dX7_born_19 : decode cX7_born 19 = .ok (.iconst 0, 1) := by decide +kernel
theorem dX7_born_20 : decode cX7_born 20 = .ok (.istore_n 2, 1) := by decide +kernel
theorem dX7_born_21 : decode cX7_born 21 = .ok (.iload_n 2, 1) := by decide +kernel
theorem dX7_born_22 : decode cX7_born 22 = .ok (.iload_n 1, 1) := by decide +kernel
theorem dX7_born_23 : decode cX7_born 23 = .ok (.if_icmp .ge 35, 3) := by decide +kernel
theorem dX7_born_26 : decode cX7_born 26 = .ok (.aload_n 0, 1) := by decide +kernel
theorem dX7_born_27 : decode cX7_born 27 = .ok (.getfield 9, 3) := by decide +kernel
theorem dX7_born_30 : decode cX7_born 30 = .ok (.iconst 3, 1) := by decide +kernel
theorem dX7_born_31 : decode cX7_born 31 = .ok (.iaload, 1) := by decide +kernel
theorem dX7_born_32 : decode cX7_born 32 = .ok (.bipush 8, 2) := by decide +kernel
theorem dX7_born_34 : decode cX7_born 34 = .ok (.if_icmp .ge 24, 3) := by decide +kernel
theorem dX7_born_37 : decode cX7_born 37 = .ok (.aload_n 0, 1) := by decide +kernel
theorem dX7_born_38 : decode cX7_born 38 = .ok (.aload_n 0, 1) := by decide +kernel
theorem dX7_born_39 : decode cX7_born 39 = .ok (.invokevirtual 137, 3) := by decide +kernel
theorem dX7_born_42 : decode cX7_born 42 = .ok (.bipush 9, 2) := by decide +kernel
theorem dX7_born_44 : decode cX7_born 44 = .ok (.irem, 1) := by decide +kernel
theorem dX7_born_45 : decode cX7_born 45 = .ok (.iconst 1, 1) := by decide +kernel
theorem dX7_born_46 : decode cX7_born 46 = .ok (.iadd, 1) := by decide +kernel
theorem dX7_born_47 : decode cX7_born 47 = .ok (.iconst 0, 1) := by decide +kernel
theorem dX7_born_48 : decode cX7_born 48 = .ok (.iconst (-1), 1) := by decide +kernel
theorem dX7_born_49 : decode cX7_born 49 = .ok (.invokevirtual 119, 3) := by decide +kernel
theorem dX7_born_52 : decode cX7_born 52 = .ok (.iinc 2 1, 3) := by decide +kernel
theorem dX7_born_55 : decode cX7_born 55 = .ok (.goto (-34), 3) := by decide +kernel
theorem dX7_born_58 : decode cX7_born 58 = .ok (.aload_n 0, 1) := by decide +kernel
theorem dX7_born_59 : decode cX7_born 59 = .ok (.getfield 9, 3) := by decide +kernel
theorem dX7_born_62 : decode cX7_born 62 = .ok (.iconst 3, 1) := by decide +kernel
theorem dX7_born_63 : decode cX7_born 63 = .ok (.iaload, 1) := by decide +kernel
theorem dX7_born_64 : decode cX7_born 64 = .ok (.ireturn, 1) := by decide +kernel
theorem dX7_isBorneThere_0 : decode cX7_isBorneThere 0 = .ok (.aload_n 0, 1) := by decide +kernel
theorem dX7_isBorneThere_1 : decode cX7_isBorneThere 1 = .ok (.iload_n 1, 1) := by decide +kernel
theorem dX7_isBorneThere_2 : decode cX7_isBorneThere 2 = .ok (.iconst 3, 1) := by decide +kernel
theorem dX7_isBorneThere_3 : decode cX7_isBorneThere 3 = .ok (.invokevirtual 59, 3) := by decide +kernel
theorem dX7_isBorneThere_6 : decode cX7_isBorneThere 6 = .ok (.istore_n 2, 1) := by decide +kernel
theorem dX7_isBorneThere_7 : decode cX7_isBorneThere 7 = .ok (.iload_n 2, 1) := by decide +kernel
theorem dX7_isBorneThere_8 : decode cX7_isBorneThere 8 = .ok (.ifCond .lt 16, 3) := by decide +kernel
theorem dX7_isBorneThere_11 : decode cX7_isBorneThere 11 = .ok (.aload_n 0, 1) := by decide +kernel
theorem dX7_isBorneThere_12 : decode cX7_isBorneThere 12 = .ok (.aload_n 0, 1) := by decide +kernel
theorem dX7_isBorneThere_13 : decode cX7_isBorneThere 13 = .ok (.iload_n 2, 1) := by decide +kernel
theorem dX7_isBorneThere_14 : decode cX7_isBorneThere 14 = .ok (.iconst 1, 1) := by decide +kernel
theorem dX7_isBorneThere_15 : decode cX7_isBorneThere 15 = .ok (.invokevirtual 59, 3) := by decide +kernel
theorem dX7_isBorneThere_18 : decode cX7_isBorneThere 18 = .ok (.invokevirtual 106, 3) := by decide +kernel
theorem dX7_isBorneThere_21 : decode cX7_isBorneThere 21 = .ok (.ifCond .lt 7, 3) := by decide +kernel
theorem dX7_isBorneThere_24 : decode cX7_isBorneThere 24 = .ok (.iconst 1, 1) := by decide +kernel
theorem dX7_isBorneThere_25 : decode cX7_isBorneThere 25 = .ok (.goto 4, 3) := by decide +kernel
theorem dX7_isBorneThere_28 : decode cX7_isBorneThere 28 = .ok (.iconst 0, 1) := by decide +kernel
theorem dX7_isBorneThere_29 : decode cX7_isBorneThere 29 = .ok (.ireturn, 1) := by decide +kernel
theorem dX7_work_0 : decode cX7_work 0 = .ok (.aload_n 0, 1) := by decide +kernel
theorem dX7_work_1 : decode cX7_work 1 = .ok (.getfield 9, 3) := by decide +kernel
theorem dX7_work_4 : decode cX7_work 4 = .ok (.iconst 0, 1) := by decide +kernel
theorem dX7_work_5 : decode cX7_work 5 = .ok (.iaload, 1) := by decide +kernel
theorem dX7_work_6 : decode cX7_work 6 = .ok (.iconst 2, 1) := by decide +kernel
theorem dX7_work_7 : decode cX7_work 7 = .ok (.irem, 1) := by decide +kernel
theorem dX7_work_8 : decode cX7_work 8 = .ok (.iconst 1, 1) := by decide +kernel
theorem dX7_work_9 : decode cX7_work 9 = .ok (.if_icmp .ne 9, 3) := by decide +kernel
theorem dX7_work_12 : decode cX7_work 12 = .ok (.iload_n 2, 1) := by decide +kernel
theorem dX7_work_13 : decode cX7_work 13 = .ok (.iconst 2, 1) := by decide +kernel
theorem dX7_work_14 : decode cX7_work 14 = .ok (.idiv, 1) := by decide +kernel
theorem dX7_work_15 : decode cX7_work 15 = .ok (.goto 4, 3) := by decide +kernel
theorem dX7_work_18 : decode cX7_work 18 = .ok (.iload_n 2, 1) := by decide +kernel
theorem dX7_work_19 : decode cX7_work 19 = .ok (.istore_n 3, 1) := by decide +kernel
theorem dX7_work_20 : decode cX7_work 20 = .ok (.aload_n 0, 1) := by decide +kernel
theorem dX7_work_21 : decode cX7_work 21 = .ok (.iload_n 1, 1) := by decide +kernel
theorem dX7_work_22 : decode cX7_work 22 = .ok (.iconst 0, 1) := by decide +kernel
theorem dX7_work_23 : decode cX7_work 23 = .ok (.invokevirtual 59, 3) := by decide +kernel
theorem dX7_work_26 : decode cX7_work 26 = .ok (.tableswitch 77 1 6 #[38, 77, 63, 53, 57, 40], 38) := by decide +kernel
theorem dX7_work_64 : decode cX7_work 64 = .ok (.iload_n 3, 1) := by decide +kernel
theorem dX7_work_65 : decode cX7_work 65 = .ok (.ireturn, 1) := by decide +kernel
theorem dX7_work_66 : decode cX7_work 66 = .ok (.iload_n 3, 1) := by decide +kernel
theorem dX7_work_67 : decode cX7_work 67 = .ok (.iconst 1, 1) := by decide +kernel
theorem dX7_work_68 : decode cX7_work 68 = .ok (.if_icmp .ge 7, 3) := by decide +kernel
theorem dX7_work_71 : decode cX7_work 71 = .ok (.iconst 0, 1) := by decide +kernel
theorem dX7_work_72 : decode cX7_work 72 = .ok (.goto 6, 3) := by decide +kernel
theorem dX7_work_75 : decode cX7_work 75 = .ok (.iload_n 3, 1) := by decide +kernel
theorem dX7_work_76 : decode cX7_work 76 = .ok (.iconst 1, 1) := by decide +kernel
theorem dX7_work_77 : decode cX7_work 77 = .ok (.isub, 1) := by decide +kernel
theorem dX7_work_78 : decode cX7_work 78 = .ok (.ireturn, 1) := by decide +kernel
theorem dX7_work_79 : decode cX7_work 79 = .ok (.iconst 2, 1) := by decide +kernel
theorem dX7_work_80 : decode cX7_work 80 = .ok (.iload_n 2, 1) := by decide +kernel
theorem dX7_work_81 : decode cX7_work 81 = .ok (.imul, 1) := by decide +kernel
theorem dX7_work_82 : decode cX7_work 82 = .ok (.ireturn, 1) := by decide +kernel
theorem dX7_work_83 : decode cX7_work 83 = .ok (.iconst 2, 1) := by decide +kernel
theorem dX7_work_84 : decode cX7_work 84 = .ok (.iload_n 2, 1) := by decide +kernel
theorem dX7_work_85 : decode cX7_work 85 = .ok (.imul, 1) := by decide +kernel
theorem dX7_work_86 : decode cX7_work 86 = .ok (.iconst 1, 1) := by decide +kernel
theorem dX7_work_87 : decode cX7_work 87 = .ok (.iadd, 1) := by decide +kernel
theorem dX7_work_88 : decode cX7_work 88 = .ok (.ireturn, 1) := by decide +kernel
theorem dX7_work_89 : decode cX7_work 89 = .ok (.aload_n 0, 1) := by decide +kernel
theorem dX7_work_90 : decode cX7_work 90 = .ok (.iload_n 1, 1) := by decide +kernel
theorem dX7_work_91 : decode cX7_work 91 = .ok (.invokevirtual 141, 3) := by decide +kernel
theorem dX7_work_94 : decode cX7_work 94 = .ok (.ifCond .eq 7, 3) := by decide +kernel
theorem dX7_work_97 : decode cX7_work 97 = .ok (.iload_n 2, 1) := by decide +kernel
theorem dX7_work_98 : decode cX7_work 98 = .ok (.goto 4, 3) := by decide +kernel
theorem dX7_work_101 : decode cX7_work 101 = .ok (.iconst 0, 1) := by decide +kernel
theorem dX7_work_102 : decode cX7_work 102 = .ok (.ireturn, 1) := by decide +kernel
theorem dX7_work_103 : decode cX7_work 103 = .ok (.iload_n 2, 1) := by decide +kernel
theorem dX7_work_104 : decode cX7_work 104 = .ok (.ireturn, 1) := by decide +kernel
theorem dX7_does_0 : decode cX7_does 0 = .ok (.aload_n 0, 1) := by decide +kernel
theorem dX7_does_1 : decode cX7_does 1 = .ok (.iload_n 1, 1) := by decide +kernel
theorem dX7_does_2 : decode cX7_does 2 = .ok (.invokevirtual 113, 3) := by decide +kernel
theorem dX7_does_5 : decode cX7_does 5 = .ok (.istore_n 3, 1) := by decide +kernel
theorem dX7_does_6 : decode cX7_does 6 = .ok (.iload_n 3, 1) := by decide +kernel
theorem dX7_does_7 : decode cX7_does 7 = .ok (.ifCond .lt 32, 3) := by decide +kernel
theorem dX7_does_10 : decode cX7_does 10 = .ok (.aload_n 0, 1) := by decide +kernel
theorem dX7_does_11 : decode cX7_does 11 = .ok (.getfield 9, 3) := by decide +kernel
theorem dX7_does_14 : decode cX7_does 14 = .ok (.bipush 20, 2) := by decide +kernel
theorem dX7_does_16 : decode cX7_does 16 = .ok (.iconst 4, 1) := by decide +kernel
theorem dX7_does_17 : decode cX7_does 17 = .ok (.iload_n 3, 1) := by decide +kernel
theorem dX7_does_18 : decode cX7_does 18 = .ok (.imul, 1) := by decide +kernel
theorem dX7_does_19 : decode cX7_does 19 = .ok (.iadd, 1) := by decide +kernel
theorem dX7_does_20 : decode cX7_does 20 = .ok (.iconst 2, 1) := by decide +kernel
theorem dX7_does_21 : decode cX7_does 21 = .ok (.iadd, 1) := by decide +kernel
theorem dX7_does_22 : decode cX7_does 22 = .ok (.aload_n 0, 1) := by decide +kernel
theorem dX7_does_23 : decode cX7_does 23 = .ok (.iload_n 3, 1) := by decide +kernel
theorem dX7_does_24 : decode cX7_does 24 = .ok (.iconst 2, 1) := by decide +kernel
theorem dX7_does_25 : decode cX7_does 25 = .ok (.invokevirtual 59, 3) := by decide +kernel
theorem dX7_does_28 : decode cX7_does 28 = .ok (.aload_n 0, 1) := by decide +kernel
theorem dX7_does_29 : decode cX7_does 29 = .ok (.iload_n 3, 1) := by decide +kernel
theorem dX7_does_30 : decode cX7_does 30 = .ok (.iload_n 2, 1) := by decide +kernel
theorem dX7_does_31 : decode cX7_does 31 = .ok (.invokevirtual 144, 3) := by decide +kernel
theorem dX7_does_34 : decode cX7_does 34 = .ok (.isub, 1) := by decide +kernel
theorem dX7_does_35 : decode cX7_does 35 = .ok (.invokestatic 147, 3) := by decide +kernel
theorem dX7_does_38 : decode cX7_does 38 = .ok (.iastore, 1) := by decide +kernel
theorem dX7_does_39 : decode cX7_does 39 = .ok (.return_, 1) := by decide +kernel
theorem dX7_isFree_0 : decode cX7_isFree 0 = .ok (.aload_n 0, 1) := by decide +kernel
theorem dX7_isFree_1 : decode cX7_isFree 1 = .ok (.iload_n 1, 1) := by decide +kernel
theorem dX7_isFree_2 : decode cX7_isFree 2 = .ok (.iconst 0, 1) := by decide +kernel
theorem dX7_isFree_3 : decode cX7_isFree 3 = .ok (.invokevirtual 63, 3) := by decide +kernel
theorem dX7_isFree_6 : decode cX7_isFree 6 = .ok (.istore_n 2, 1) := by decide +kernel
theorem dX7_isFree_7 : decode cX7_isFree 7 = .ok (.iload_n 2, 1) := by decide +kernel
theorem dX7_isFree_8 : decode cX7_isFree 8 = .ok (.ifCond .lt 11, 3) := by decide +kernel
theorem dX7_isFree_11 : decode cX7_isFree 11 = .ok (.aload_n 0, 1) := by decide +kernel
theorem dX7_isFree_12 : decode cX7_isFree 12 = .ok (.iload_n 2, 1) := by decide +kernel
theorem dX7_isFree_13 : decode cX7_isFree 13 = .ok (.invokevirtual 113, 3) := by decide +kernel
theorem dX7_isFree_16 : decode cX7_isFree 16 = .ok (.ifCond .ge 7, 3) := by decide +kernel
theorem dX7_isFree_19 : decode cX7_isFree 19 = .ok (.iconst 1, 1) := by decide +kernel
theorem dX7_isFree_20 : decode cX7_isFree 20 = .ok (.goto 4, 3) := by decide +kernel
theorem dX7_isFree_23 : decode cX7_isFree 23 = .ok (.iconst 0, 1) := by decide +kernel
theorem dX7_isFree_24 : decode cX7_isFree 24 = .ok (.ireturn, 1) := by decide +kernel
theorem dX7_helpsNow_0 : decode cX7_helpsNow 0 = .ok (.aload_n 0, 1) := by decide +kernel
theorem dX7_helpsNow_1 : decode cX7_helpsNow 1 = .ok (.iload_n 1, 1) := by decide +kernel
theorem dX7_helpsNow_2 : decode cX7_helpsNow 2 = .ok (.iconst 3, 1) := by decide +kernel
theorem dX7_helpsNow_3 : decode cX7_helpsNow 3 = .ok (.invokevirtual 63, 3) := by decide +kernel
theorem dX7_helpsNow_6 : decode cX7_helpsNow 6 = .ok (.istore_n 2, 1) := by decide +kernel
theorem dX7_helpsNow_7 : decode cX7_helpsNow 7 = .ok (.iload_n 2, 1) := by decide +kernel
theorem dX7_helpsNow_8 : decode cX7_helpsNow 8 = .ok (.ifCond .lt 20, 3) := by decide +kernel
theorem dX7_helpsNow_11 : decode cX7_helpsNow 11 = .ok (.aload_n 0, 1) := by decide +kernel
theorem dX7_helpsNow_12 : decode cX7_helpsNow 12 = .ok (.iload_n 2, 1) := by decide +kernel
theorem dX7_helpsNow_13 : decode cX7_helpsNow 13 = .ok (.iconst 0, 1) := by decide +kernel
theorem dX7_helpsNow_14 : decode cX7_helpsNow 14 = .ok (.invokevirtual 63, 3) := by decide +kernel
theorem dX7_helpsNow_17 : decode cX7_helpsNow 17 = .ok (.ifCond .lt 11, 3) := by decide +kernel
theorem dX7_helpsNow_20 : decode cX7_helpsNow 20 = .ok (.aload_n 0, 1) := by decide +kernel
theorem dX7_helpsNow_21 : decode cX7_helpsNow 21 = .ok (.iload_n 1, 1) := by decide +kernel
theorem dX7_helpsNow_22 : decode cX7_helpsNow 22 = .ok (.invokevirtual 150, 3) := by decide +kernel
theorem dX7_helpsNow_25 : decode cX7_helpsNow 25 = .ok (.ifCond .ne 4, 3) := by decide +kernel
theorem dX7_helpsNow_28 : decode cX7_helpsNow 28 = .ok (.return_, 1) := by decide +kernel
theorem dX7_helpsNow_29 : decode cX7_helpsNow 29 = .ok (.aload_n 0, 1) := by decide +kernel
theorem dX7_helpsNow_30 : decode cX7_helpsNow 30 = .ok (.aload_n 0, 1) := by decide +kernel
theorem dX7_helpsNow_31 : decode cX7_helpsNow 31 = .ok (.iload_n 2, 1) := by decide +kernel
theorem dX7_helpsNow_32 : decode cX7_helpsNow 32 = .ok (.iconst 0, 1) := by decide +kernel
theorem dX7_helpsNow_33 : decode cX7_helpsNow 33 = .ok (.invokevirtual 63, 3) := by decide +kernel
theorem dX7_helpsNow_36 : decode cX7_helpsNow 36 = .ok (.aload_n 0, 1) := by decide +kernel
theorem dX7_helpsNow_37 : decode cX7_helpsNow 37 = .ok (.iload_n 1, 1) := by decide +kernel
theorem dX7_helpsNow_38 : decode cX7_helpsNow 38 = .ok (.iconst 2, 1) := by decide +kernel
theorem dX7_helpsNow_39 : decode cX7_helpsNow 39 = .ok (.invokevirtual 63, 3) := by decide +kernel
theorem dX7_helpsNow_42 : decode cX7_helpsNow 42 = .ok (.iconst 2, 1) := by decide +kernel
theorem dX7_helpsNow_43 : decode cX7_helpsNow 43 = .ok (.idiv, 1) := by decide +kernel
theorem dX7_helpsNow_44 : decode cX7_helpsNow 44 = .ok (.invokevirtual 153, 3) := by decide +kernel
theorem dX7_helpsNow_47 : decode cX7_helpsNow 47 = .ok (.return_, 1) := by decide +kernel
theorem dX7_leaves_0 : decode cX7_leaves 0 = .ok (.aload_n 0, 1) := by decide +kernel
theorem dX7_leaves_1 : decode cX7_leaves 1 = .ok (.bipush 100, 2) := by decide +kernel
theorem dX7_leaves_3 : decode cX7_leaves 3 = .ok (.iconst 4, 1) := by decide +kernel
theorem dX7_leaves_4 : decode cX7_leaves 4 = .ok (.iload_n 1, 1) := by decide +kernel
theorem dX7_leaves_5 : decode cX7_leaves 5 = .ok (.imul, 1) := by decide +kernel
theorem dX7_leaves_6 : decode cX7_leaves 6 = .ok (.iadd, 1) := by decide +kernel
theorem dX7_leaves_7 : decode cX7_leaves 7 = .ok (.iconst (-1), 1) := by decide +kernel
theorem dX7_leaves_8 : decode cX7_leaves 8 = .ok (.invokevirtual 72, 3) := by decide +kernel
theorem dX7_leaves_11 : decode cX7_leaves 11 = .ok (.istore_n 2, 1) := by decide +kernel
theorem dX7_leaves_12 : decode cX7_leaves 12 = .ok (.aload_n 0, 1) := by decide +kernel
theorem dX7_leaves_13 : decode cX7_leaves 13 = .ok (.getfield 9, 3) := by decide +kernel
theorem dX7_leaves_16 : decode cX7_leaves 16 = .ok (.iconst 4, 1) := by decide +kernel
theorem dX7_leaves_17 : decode cX7_leaves 17 = .ok (.iconst 2, 1) := by decide +kernel
theorem dX7_leaves_18 : decode cX7_leaves 18 = .ok (.iload_n 2, 1) := by decide +kernel
theorem dX7_leaves_19 : decode cX7_leaves 19 = .ok (.imul, 1) := by decide +kernel
theorem dX7_leaves_20 : decode cX7_leaves 20 = .ok (.iadd, 1) := by decide +kernel
theorem dX7_leaves_21 : decode cX7_leaves 21 = .ok (.iconst 1, 1) := by decide +kernel
theorem dX7_leaves_22 : decode cX7_leaves 22 = .ok (.iadd, 1) := by decide +kernel
theorem dX7_leaves_23 : decode cX7_leaves 23 = .ok (.dup2, 1) := by decide +kernel
theorem dX7_leaves_24 : decode cX7_leaves 24 = .ok (.iaload, 1) := by decide +kernel
theorem dX7_leaves_25 : decode cX7_leaves 25 = .ok (.iconst 1, 1) := by decide +kernel
theorem dX7_leaves_26 : decode cX7_leaves 26 = .ok (.iadd, 1) := by decide +kernel
theorem dX7_leaves_27 : decode cX7_leaves 27 = .ok (.iastore, 1) := by decide +kernel
theorem dX7_leaves_28 : decode cX7_leaves 28 = .ok (.aload_n 0, 1) := by decide +kernel
theorem dX7_leaves_29 : decode cX7_leaves 29 = .ok (.iload_n 2, 1) := by decide +kernel
theorem dX7_leaves_30 : decode cX7_leaves 30 = .ok (.invokevirtual 103, 3) := by decide +kernel
theorem dX7_leaves_33 : decode cX7_leaves 33 = .ok (.ifCond .eq 22, 3) := by decide +kernel
theorem dX7_leaves_36 : decode cX7_leaves 36 = .ok (.aload_n 0, 1) := by decide +kernel
theorem dX7_leaves_37 : decode cX7_leaves 37 = .ok (.getfield 9, 3) := by decide +kernel
theorem dX7_leaves_40 : decode cX7_leaves 40 = .ok (.iconst 2, 1) := by decide +kernel
theorem dX7_leaves_41 : decode cX7_leaves 41 = .ok (.iaload, 1) := by decide +kernel
theorem dX7_leaves_42 : decode cX7_leaves 42 = .ok (.bipush 20, 2) := by decide +kernel
theorem dX7_leaves_44 : decode cX7_leaves 44 = .ok (.if_icmp .ge 11, 3) := by decide +kernel
theorem dX7_leaves_47 : decode cX7_leaves 47 = .ok (.aload_n 0, 1) := by decide +kernel
theorem dX7_leaves_48 : decode cX7_leaves 48 = .ok (.iconst 0, 1) := by decide +kernel
theorem dX7_leaves_49 : decode cX7_leaves 49 = .ok (.iload_n 2, 1) := by decide +kernel
theorem dX7_leaves_50 : decode cX7_leaves 50 = .ok (.iconst 5, 1) := by decide +kernel
theorem dX7_leaves_51 : decode cX7_leaves 51 = .ok (.iconst (-1), 1) := by decide +kernel
theorem dX7_leaves_52 : decode cX7_leaves 52 = .ok (.invokevirtual 81, 3) := by decide +kernel
theorem dX7_leaves_55 : decode cX7_leaves 55 = .ok (.return_, 1) := by decide +kernel
theorem dX7_year_0 : decode cX7_year 0 = .ok (.iconst 0, 1) := by decide +kernel
theorem dX7_year_1 : decode cX7_year 1 = .ok (.istore_n 1, 1) := by decide +kernel
theorem dX7_year_2 : decode cX7_year 2 = .ok (.iload_n 1, 1) := by decide +kernel
theorem dX7_year_3 : decode cX7_year 3 = .ok (.aload_n 0, 1) := by decide +kernel
theorem dX7_year_4 : decode cX7_year 4 = .ok (.getfield 9, 3) := by decide +kernel
theorem dX7_year_7 : decode cX7_year 7 = .ok (.iconst 3, 1) := by decide +kernel
theorem dX7_year_8 : decode cX7_year 8 = .ok (.iaload, 1) := by decide +kernel
theorem dX7_year_9 : decode cX7_year 9 = .ok (.if_icmp .ge 45, 3) := by decide +kernel
theorem dX7_year_12 : decode cX7_year 12 = .ok (.aload_n 0, 1) := by decide +kernel
theorem dX7_year_13 : decode cX7_year 13 = .ok (.iload_n 1, 1) := by decide +kernel
theorem dX7_year_14 : decode cX7_year 14 = .ok (.iconst 1, 1) := by decide +kernel
theorem dX7_year_15 : decode cX7_year 15 = .ok (.invokevirtual 63, 3) := by decide +kernel
theorem dX7_year_18 : decode cX7_year 18 = .ok (.bipush 7, 2) := by decide +kernel
theorem dX7_year_20 : decode cX7_year 20 = .ok (.if_icmp .lt 28, 3) := by decide +kernel
theorem dX7_year_23 : decode cX7_year 23 = .ok (.aload_n 0, 1) := by decide +kernel
theorem dX7_year_24 : decode cX7_year 24 = .ok (.iload_n 1, 1) := by decide +kernel
theorem dX7_year_25 : decode cX7_year 25 = .ok (.iconst 0, 1) := by decide +kernel
theorem dX7_year_26 : decode cX7_year 26 = .ok (.invokevirtual 63, 3) := by decide +kernel
theorem dX7_year_29 : decode cX7_year 29 = .ok (.ifCond .lt 19, 3) := by decide +kernel
theorem dX7_year_32 : decode cX7_year 32 = .ok (.aload_n 0, 1) := by decide +kernel
theorem dX7_year_33 : decode cX7_year 33 = .ok (.aload_n 0, 1) := by decide +kernel
theorem dX7_year_34 : decode cX7_year 34 = .ok (.iload_n 1, 1) := by decide +kernel
theorem dX7_year_35 : decode cX7_year 35 = .ok (.iconst 0, 1) := by decide +kernel
theorem dX7_year_36 : decode cX7_year 36 = .ok (.invokevirtual 63, 3) := by decide +kernel
theorem dX7_year_39 : decode cX7_year 39 = .ok (.aload_n 0, 1) := by decide +kernel
theorem dX7_year_40 : decode cX7_year 40 = .ok (.iload_n 1, 1) := by decide +kernel
theorem dX7_year_41 : decode cX7_year 41 = .ok (.iconst 2, 1) := by decide +kernel
theorem dX7_year_42 : decode cX7_year 42 = .ok (.invokevirtual 63, 3) := by decide +kernel
theorem dX7_year_45 : decode cX7_year 45 = .ok (.invokevirtual 153, 3) := by decide +kernel
theorem dX7_year_48 : decode cX7_year 48 = .ok (.iinc 1 1, 3) := by decide +kernel
theorem dX7_year_51 : decode cX7_year 51 = .ok (.goto (-49), 3) := by decide +kernel
theorem dX7_year_54 : decode cX7_year 54 = .ok (.iconst 0, 1) := by decide +kernel
theorem dX7_year_55 : decode cX7_year 55 = .ok (.istore_n 1, 1) := by decide +kernel
theorem dX7_year_56 : decode cX7_year 56 = .ok (.iload_n 1, 1) := by decide +kernel
theorem dX7_year_57 : decode cX7_year 57 = .ok (.aload_n 0, 1) := by decide +kernel
theorem dX7_year_58 : decode cX7_year 58 = .ok (.getfield 9, 3) := by decide +kernel
theorem dX7_year_61 : decode cX7_year 61 = .ok (.iconst 3, 1) := by decide +kernel
theorem dX7_year_62 : decode cX7_year 62 = .ok (.iaload, 1) := by decide +kernel
theorem dX7_year_63 : decode cX7_year 63 = .ok (.if_icmp .ge 25, 3) := by decide +kernel
theorem dX7_year_66 : decode cX7_year 66 = .ok (.aload_n 0, 1) := by decide +kernel
theorem dX7_year_67 : decode cX7_year 67 = .ok (.iload_n 1, 1) := by decide +kernel
theorem dX7_year_68 : decode cX7_year 68 = .ok (.iconst 1, 1) := by decide +kernel
theorem dX7_year_69 : decode cX7_year 69 = .ok (.invokevirtual 63, 3) := by decide +kernel
theorem dX7_year_72 : decode cX7_year 72 = .ok (.bipush 7, 2) := by decide +kernel
theorem dX7_year_74 : decode cX7_year 74 = .ok (.if_icmp .lt 8, 3) := by decide +kernel
theorem dX7_year_77 : decode cX7_year 77 = .ok (.aload_n 0, 1) := by decide +kernel
theorem dX7_year_78 : decode cX7_year 78 = .ok (.iload_n 1, 1) := by decide +kernel
theorem dX7_year_79 : decode cX7_year 79 = .ok (.invokevirtual 157, 3) := by decide +kernel
theorem dX7_year_82 : decode cX7_year 82 = .ok (.iinc 1 1, 3) := by decide +kernel
theorem dX7_year_85 : decode cX7_year 85 = .ok (.goto (-29), 3) := by decide +kernel
theorem dX7_year_88 : decode cX7_year 88 = .ok (.iconst 0, 1) := by decide +kernel
theorem dX7_year_89 : decode cX7_year 89 = .ok (.istore_n 1, 1) := by decide +kernel
theorem dX7_year_90 : decode cX7_year 90 = .ok (.iload_n 1, 1) := by decide +kernel
theorem dX7_year_91 : decode cX7_year 91 = .ok (.aload_n 0, 1) := by decide +kernel
theorem dX7_year_92 : decode cX7_year 92 = .ok (.getfield 9, 3) := by decide +kernel
theorem dX7_year_95 : decode cX7_year 95 = .ok (.iconst 2, 1) := by decide +kernel
theorem dX7_year_96 : decode cX7_year 96 = .ok (.iaload, 1) := by decide +kernel
theorem dX7_year_97 : decode cX7_year 97 = .ok (.if_icmp .ge 37, 3) := by decide +kernel
theorem dX7_year_100 : decode cX7_year 100 = .ok (.aload_n 0, 1) := by decide +kernel
theorem dX7_year_101 : decode cX7_year 101 = .ok (.getfield 9, 3) := by decide +kernel
theorem dX7_year_104 : decode cX7_year 104 = .ok (.bipush 20, 2) := by decide +kernel
theorem dX7_year_106 : decode cX7_year 106 = .ok (.iconst 4, 1) := by decide +kernel
theorem dX7_year_107 : decode cX7_year 107 = .ok (.iload_n 1, 1) := by decide +kernel
theorem dX7_year_108 : decode cX7_year 108 = .ok (.imul, 1) := by decide +kernel
theorem dX7_year_109 : decode cX7_year 109 = .ok (.iadd, 1) := by decide +kernel
theorem dX7_year_110 : decode cX7_year 110 = .ok (.iconst 2, 1) := by decide +kernel
theorem dX7_year_111 : decode cX7_year 111 = .ok (.iadd, 1) := by decide +kernel
theorem dX7_year_112 : decode cX7_year 112 = .ok (.aload_n 0, 1) := by decide +kernel
theorem dX7_year_113 : decode cX7_year 113 = .ok (.iload_n 1, 1) := by decide +kernel
theorem dX7_year_114 : decode cX7_year 114 = .ok (.iconst 2, 1) := by decide +kernel
theorem dX7_year_115 : decode cX7_year 115 = .ok (.invokevirtual 59, 3) := by decide +kernel
theorem dX7_year_118 : decode cX7_year 118 = .ok (.aload_n 0, 1) := by decide +kernel
theorem dX7_year_119 : decode cX7_year 119 = .ok (.iload_n 1, 1) := by decide +kernel
theorem dX7_year_120 : decode cX7_year 120 = .ok (.invokevirtual 96, 3) := by decide +kernel
theorem dX7_year_123 : decode cX7_year 123 = .ok (.iadd, 1) := by decide +kernel
theorem dX7_year_124 : decode cX7_year 124 = .ok (.invokestatic 147, 3) := by decide +kernel
theorem dX7_year_127 : decode cX7_year 127 = .ok (.iastore, 1) := by decide +kernel
theorem dX7_year_128 : decode cX7_year 128 = .ok (.iinc 1 1, 3) := by decide +kernel
theorem dX7_year_131 : decode cX7_year 131 = .ok (.goto (-41), 3) := by decide +kernel
theorem dX7_year_134 : decode cX7_year 134 = .ok (.iconst 0, 1) := by decide +kernel
theorem dX7_year_135 : decode cX7_year 135 = .ok (.istore_n 1, 1) := by decide +kernel
theorem dX7_year_136 : decode cX7_year 136 = .ok (.iload_n 1, 1) := by decide +kernel
theorem dX7_year_137 : decode cX7_year 137 = .ok (.aload_n 0, 1) := by decide +kernel
theorem dX7_year_138 : decode cX7_year 138 = .ok (.getfield 9, 3) := by decide +kernel
theorem dX7_year_141 : decode cX7_year 141 = .ok (.iconst 3, 1) := by decide +kernel
theorem dX7_year_142 : decode cX7_year 142 = .ok (.iaload, 1) := by decide +kernel
theorem dX7_year_143 : decode cX7_year 143 = .ok (.if_icmp .ge 41, 3) := by decide +kernel
theorem dX7_year_146 : decode cX7_year 146 = .ok (.aload_n 0, 1) := by decide +kernel
theorem dX7_year_147 : decode cX7_year 147 = .ok (.getfield 9, 3) := by decide +kernel
theorem dX7_year_150 : decode cX7_year 150 = .ok (.bipush 100, 2) := by decide +kernel
theorem dX7_year_152 : decode cX7_year 152 = .ok (.iconst 4, 1) := by decide +kernel
theorem dX7_year_153 : decode cX7_year 153 = .ok (.iload_n 1, 1) := by decide +kernel
theorem dX7_year_154 : decode cX7_year 154 = .ok (.imul, 1) := by decide +kernel
theorem dX7_year_155 : decode cX7_year 155 = .ok (.iadd, 1) := by decide +kernel
theorem dX7_year_156 : decode cX7_year 156 = .ok (.iconst 1, 1) := by decide +kernel
theorem dX7_year_157 : decode cX7_year 157 = .ok (.iadd, 1) := by decide +kernel
theorem dX7_year_158 : decode cX7_year 158 = .ok (.dup2, 1) := by decide +kernel
theorem dX7_year_159 : decode cX7_year 159 = .ok (.iaload, 1) := by decide +kernel
theorem dX7_year_160 : decode cX7_year 160 = .ok (.aload_n 0, 1) := by decide +kernel
theorem dX7_year_161 : decode cX7_year 161 = .ok (.iload_n 1, 1) := by decide +kernel
theorem dX7_year_162 : decode cX7_year 162 = .ok (.iconst 1, 1) := by decide +kernel
theorem dX7_year_163 : decode cX7_year 163 = .ok (.invokevirtual 63, 3) := by decide +kernel
theorem dX7_year_166 : decode cX7_year 166 = .ok (.bipush 40, 2) := by decide +kernel
theorem dX7_year_168 : decode cX7_year 168 = .ok (.if_icmp .ge 7, 3) := by decide +kernel
theorem dX7_year_171 : decode cX7_year 171 = .ok (.iconst 1, 1) := by decide +kernel
theorem dX7_year_172 : decode cX7_year 172 = .ok (.goto 4, 3) := by decide +kernel
theorem dX7_year_175 : decode cX7_year 175 = .ok (.iconst 0, 1) := by decide +kernel
theorem dX7_year_176 : decode cX7_year 176 = .ok (.iadd, 1) := by decide +kernel
theorem dX7_year_177 : decode cX7_year 177 = .ok (.iastore, 1) := by decide +kernel
theorem dX7_year_178 : decode cX7_year 178 = .ok (.iinc 1 1, 3) := by decide +kernel
theorem dX7_year_181 : decode cX7_year 181 = .ok (.goto (-45), 3) := by decide +kernel
theorem dX7_year_184 : decode cX7_year 184 = .ok (.iconst 0, 1) := by decide +kernel
theorem dX7_year_185 : decode cX7_year 185 = .ok (.istore_n 1, 1) := by decide +kernel
theorem dX7_year_186 : decode cX7_year 186 = .ok (.iload_n 1, 1) := by decide +kernel
theorem dX7_year_187 : decode cX7_year 187 = .ok (.aload_n 0, 1) := by decide +kernel
theorem dX7_year_188 : decode cX7_year 188 = .ok (.getfield 9, 3) := by decide +kernel
theorem dX7_year_191 : decode cX7_year 191 = .ok (.iconst 3, 1) := by decide +kernel
theorem dX7_year_192 : decode cX7_year 192 = .ok (.iaload, 1) := by decide +kernel
theorem dX7_year_193 : decode cX7_year 193 = .ok (.if_icmp .ge 34, 3) := by decide +kernel
theorem dX7_year_196 : decode cX7_year 196 = .ok (.aload_n 0, 1) := by decide +kernel
theorem dX7_year_197 : decode cX7_year 197 = .ok (.iload_n 1, 1) := by decide +kernel
theorem dX7_year_198 : decode cX7_year 198 = .ok (.iconst 1, 1) := by decide +kernel
theorem dX7_year_199 : decode cX7_year 199 = .ok (.invokevirtual 63, 3) := by decide +kernel
theorem dX7_year_202 : decode cX7_year 202 = .ok (.bipush 40, 2) := by decide +kernel
theorem dX7_year_204 : decode cX7_year 204 = .ok (.if_icmp .ne 17, 3) := by decide +kernel
theorem dX7_year_207 : decode cX7_year 207 = .ok (.aload_n 0, 1) := by decide +kernel
theorem dX7_year_208 : decode cX7_year 208 = .ok (.iload_n 1, 1) := by decide +kernel
theorem dX7_year_209 : decode cX7_year 209 = .ok (.iconst 0, 1) := by decide +kernel
theorem dX7_year_210 : decode cX7_year 210 = .ok (.invokevirtual 63, 3) := by decide +kernel
theorem dX7_year_213 : decode cX7_year 213 = .ok (.ifCond .lt 8, 3) := by decide +kernel
theorem dX7_year_216 : decode cX7_year 216 = .ok (.aload_n 0, 1) := by decide +kernel
theorem dX7_year_217 : decode cX7_year 217 = .ok (.iload_n 1, 1) := by decide +kernel
theorem dX7_year_218 : decode cX7_year 218 = .ok (.invokevirtual 161, 3) := by decide +kernel
theorem dX7_year_221 : decode cX7_year 221 = .ok (.iinc 1 1, 3) := by decide +kernel
theorem dX7_year_224 : decode cX7_year 224 = .ok (.goto (-38), 3) := by decide +kernel
theorem dX7_year_227 : decode cX7_year 227 = .ok (.aload_n 0, 1) := by decide +kernel
theorem dX7_year_228 : decode cX7_year 228 = .ok (.getfield 9, 3) := by decide +kernel
theorem dX7_year_231 : decode cX7_year 231 = .ok (.iconst 0, 1) := by decide +kernel
theorem dX7_year_232 : decode cX7_year 232 = .ok (.dup2, 1) := by decide +kernel
theorem dX7_year_233 : decode cX7_year 233 = .ok (.iaload, 1) := by decide +kernel
theorem dX7_year_234 : decode cX7_year 234 = .ok (.iconst 1, 1) := by decide +kernel
theorem dX7_year_235 : decode cX7_year 235 = .ok (.iadd, 1) := by decide +kernel
theorem dX7_year_236 : decode cX7_year 236 = .ok (.iastore, 1) := by decide +kernel
theorem dX7_year_237 : decode cX7_year 237 = .ok (.return_, 1) := by decide +kernel
theorem dX7_unended_0 : decode cX7_unended 0 = .ok (.iconst 0, 1) := by decide +kernel
theorem dX7_unended_1 : decode cX7_unended 1 = .ok (.istore_n 1, 1) := by decide +kernel
theorem dX7_unended_2 : decode cX7_unended 2 = .ok (.iconst 0, 1) := by decide +kernel
theorem dX7_unended_3 : decode cX7_unended 3 = .ok (.istore_n 2, 1) := by decide +kernel
theorem dX7_unended_4 : decode cX7_unended 4 = .ok (.iload_n 2, 1) := by decide +kernel
theorem dX7_unended_5 : decode cX7_unended 5 = .ok (.aload_n 0, 1) := by decide +kernel
theorem dX7_unended_6 : decode cX7_unended 6 = .ok (.getfield 9, 3) := by decide +kernel
theorem dX7_unended_9 : decode cX7_unended 9 = .ok (.iconst 2, 1) := by decide +kernel
theorem dX7_unended_10 : decode cX7_unended 10 = .ok (.iaload, 1) := by decide +kernel
theorem dX7_unended_11 : decode cX7_unended 11 = .ok (.if_icmp .ge 25, 3) := by decide +kernel
theorem dX7_unended_14 : decode cX7_unended 14 = .ok (.iload_n 1, 1) := by decide +kernel
theorem dX7_unended_15 : decode cX7_unended 15 = .ok (.aload_n 0, 1) := by decide +kernel
theorem dX7_unended_16 : decode cX7_unended 16 = .ok (.iload_n 2, 1) := by decide +kernel
theorem dX7_unended_17 : decode cX7_unended 17 = .ok (.invokevirtual 85, 3) := by decide +kernel
theorem dX7_unended_20 : decode cX7_unended 20 = .ok (.ifCond .eq 7, 3) := by decide +kernel
theorem dX7_unended_23 : decode cX7_unended 23 = .ok (.iconst 0, 1) := by decide +kernel
theorem dX7_unended_24 : decode cX7_unended 24 = .ok (.goto 4, 3) := by decide +kernel
theorem dX7_unended_27 : decode cX7_unended 27 = .ok (.iconst 1, 1) := by decide +kernel
theorem dX7_unended_28 : decode cX7_unended 28 = .ok (.iadd, 1) := by decide +kernel
theorem dX7_unended_29 : decode cX7_unended 29 = .ok (.istore_n 1, 1) := by decide +kernel
theorem dX7_unended_30 : decode cX7_unended 30 = .ok (.iinc 2 1, 3) := by decide +kernel
theorem dX7_unended_33 : decode cX7_unended 33 = .ok (.goto (-29), 3) := by decide +kernel
theorem dX7_unended_36 : decode cX7_unended 36 = .ok (.iload_n 1, 1) := by decide +kernel
theorem dX7_unended_37 : decode cX7_unended 37 = .ok (.ireturn, 1) := by decide +kernel
theorem dX7_ended_0 : decode cX7_ended 0 = .ok (.aload_n 0, 1) := by decide +kernel
theorem dX7_ended_1 : decode cX7_ended 1 = .ok (.getfield 9, 3) := by decide +kernel
theorem dX7_ended_4 : decode cX7_ended 4 = .ok (.iconst 2, 1) := by decide +kernel
theorem dX7_ended_5 : decode cX7_ended 5 = .ok (.iaload, 1) := by decide +kernel
theorem dX7_ended_6 : decode cX7_ended 6 = .ok (.aload_n 0, 1) := by decide +kernel
theorem dX7_ended_7 : decode cX7_ended 7 = .ok (.invokevirtual 164, 3) := by decide +kernel
theorem dX7_ended_10 : decode cX7_ended 10 = .ok (.isub, 1) := by decide +kernel
theorem dX7_ended_11 : decode cX7_ended 11 = .ok (.ireturn, 1) := by decide +kernel
theorem dX7_yearsGo_0 : decode cX7_yearsGo 0 = .ok (.iconst 0, 1) := by decide +kernel
theorem dX7_yearsGo_1 : decode cX7_yearsGo 1 = .ok (.istore_n 2, 1) := by decide +kernel
theorem dX7_yearsGo_2 : decode cX7_yearsGo 2 = .ok (.iload_n 2, 1) := by decide +kernel
theorem dX7_yearsGo_3 : decode cX7_yearsGo 3 = .ok (.iload_n 1, 1) := by decide +kernel
theorem dX7_yearsGo_4 : decode cX7_yearsGo 4 = .ok (.if_icmp .ge 13, 3) := by decide +kernel
theorem dX7_yearsGo_7 : decode cX7_yearsGo 7 = .ok (.aload_n 0, 1) := by decide +kernel
theorem dX7_yearsGo_8 : decode cX7_yearsGo 8 = .ok (.invokevirtual 167, 3) := by decide +kernel
theorem dX7_yearsGo_11 : decode cX7_yearsGo 11 = .ok (.iinc 2 1, 3) := by decide +kernel
theorem dX7_yearsGo_14 : decode cX7_yearsGo 14 = .ok (.goto (-12), 3) := by decide +kernel
theorem dX7_yearsGo_17 : decode cX7_yearsGo 17 = .ok (.return_, 1) := by decide +kernel
theorem dX7_isFarOn_0 : decode cX7_isFarOn 0 = .ok (.aload_n 0, 1) := by decide +kernel
theorem dX7_isFarOn_1 : decode cX7_isFarOn 1 = .ok (.getfield 9, 3) := by decide +kernel
theorem dX7_isFarOn_4 : decode cX7_isFarOn 4 = .ok (.iconst 0, 1) := by decide +kernel
theorem dX7_isFarOn_5 : decode cX7_isFarOn 5 = .ok (.iaload, 1) := by decide +kernel
theorem dX7_isFarOn_6 : decode cX7_isFarOn 6 = .ok (.iload_n 1, 1) := by decide +kernel
theorem dX7_isFarOn_7 : decode cX7_isFarOn 7 = .ok (.iadd, 1) := by decide +kernel
theorem dX7_isFarOn_8 : decode cX7_isFarOn 8 = .ok (.sipush 999, 3) := by decide +kernel
theorem dX7_isFarOn_11 : decode cX7_isFarOn 11 = .ok (.if_icmp .le 7, 3) := by decide +kernel
theorem dX7_isFarOn_14 : decode cX7_isFarOn 14 = .ok (.iconst 1, 1) := by decide +kernel
theorem dX7_isFarOn_15 : decode cX7_isFarOn 15 = .ok (.goto 4, 3) := by decide +kernel
theorem dX7_isFarOn_18 : decode cX7_isFarOn 18 = .ok (.iconst 0, 1) := by decide +kernel
theorem dX7_isFarOn_19 : decode cX7_isFarOn 19 = .ok (.ireturn, 1) := by decide +kernel
theorem dX7_years_0 : decode cX7_years 0 = .ok (.iload_n 1, 1) := by decide +kernel
theorem dX7_years_1 : decode cX7_years 1 = .ok (.i2l, 1) := by decide +kernel
theorem dX7_years_2 : decode cX7_years 2 = .ok (.lconst 1, 1) := by decide +kernel
theorem dX7_years_3 : decode cX7_years 3 = .ok (.ldc2_w 170, 3) := by decide +kernel
theorem dX7_years_6 : decode cX7_years 6 = .ok (.invokestatic 51, 3) := by decide +kernel
theorem dX7_years_9 : decode cX7_years 9 = .ok (.ifCond .ne 10, 3) := by decide +kernel
theorem dX7_years_12 : decode cX7_years 12 = .ok (.aload_n 0, 1) := by decide +kernel
theorem dX7_years_13 : decode cX7_years 13 = .ok (.ldc 43, 2) := by decide +kernel
theorem dX7_years_15 : decode cX7_years 15 = .ok (.invokevirtual 45, 3) := by decide +kernel
theorem dX7_years_18 : decode cX7_years 18 = .ok (.ireturn, 1) := by decide +kernel
theorem dX7_years_19 : decode cX7_years 19 = .ok (.aload_n 0, 1) := by decide +kernel
theorem dX7_years_20 : decode cX7_years 20 = .ok (.iload_n 1, 1) := by decide +kernel
theorem dX7_years_21 : decode cX7_years 21 = .ok (.invokevirtual 172, 3) := by decide +kernel
theorem dX7_years_24 : decode cX7_years 24 = .ok (.ifCond .eq 10, 3) := by decide +kernel
theorem dX7_years_27 : decode cX7_years 27 = .ok (.aload_n 0, 1) := by decide +kernel
theorem dX7_years_28 : decode cX7_years 28 = .ok (.ldc 130, 2) := by decide +kernel
theorem dX7_years_30 : decode cX7_years 30 = .ok (.invokevirtual 45, 3) := by decide +kernel
theorem dX7_years_33 : decode cX7_years 33 = .ok (.ireturn, 1) := by decide +kernel
theorem dX7_years_34 : decode cX7_years 34 = .ok (.aload_n 0, 1) := by decide +kernel
theorem dX7_years_35 : decode cX7_years 35 = .ok (.invokevirtual 175, 3) := by decide +kernel
theorem dX7_years_38 : decode cX7_years 38 = .ok (.istore_n 2, 1) := by decide +kernel
theorem dX7_years_39 : decode cX7_years 39 = .ok (.aload_n 0, 1) := by decide +kernel
theorem dX7_years_40 : decode cX7_years 40 = .ok (.iload_n 1, 1) := by decide +kernel
theorem dX7_years_41 : decode cX7_years 41 = .ok (.invokevirtual 178, 3) := by decide +kernel
theorem dX7_years_44 : decode cX7_years 44 = .ok (.aload_n 0, 1) := by decide +kernel
theorem dX7_years_45 : decode cX7_years 45 = .ok (.invokevirtual 175, 3) := by decide +kernel
theorem dX7_years_48 : decode cX7_years 48 = .ok (.iload_n 2, 1) := by decide +kernel
theorem dX7_years_49 : decode cX7_years 49 = .ok (.isub, 1) := by decide +kernel
theorem dX7_years_50 : decode cX7_years 50 = .ok (.ireturn, 1) := by decide +kernel
theorem dX7_hours_0 : decode cX7_hours 0 = .ok (.iconst 0, 1) := by decide +kernel
theorem dX7_hours_1 : decode cX7_hours 1 = .ok (.istore_n 1, 1) := by decide +kernel
theorem dX7_hours_2 : decode cX7_hours 2 = .ok (.iconst 0, 1) := by decide +kernel
theorem dX7_hours_3 : decode cX7_hours 3 = .ok (.istore_n 2, 1) := by decide +kernel
theorem dX7_hours_4 : decode cX7_hours 4 = .ok (.iload_n 2, 1) := by decide +kernel
theorem dX7_hours_5 : decode cX7_hours 5 = .ok (.aload_n 0, 1) := by decide +kernel
theorem dX7_hours_6 : decode cX7_hours 6 = .ok (.getfield 9, 3) := by decide +kernel
theorem dX7_hours_9 : decode cX7_hours 9 = .ok (.iconst 2, 1) := by decide +kernel
theorem dX7_hours_10 : decode cX7_hours 10 = .ok (.iaload, 1) := by decide +kernel
theorem dX7_hours_11 : decode cX7_hours 11 = .ok (.if_icmp .ge 18, 3) := by decide +kernel
theorem dX7_hours_14 : decode cX7_hours 14 = .ok (.iload_n 1, 1) := by decide +kernel
theorem dX7_hours_15 : decode cX7_hours 15 = .ok (.aload_n 0, 1) := by decide +kernel
theorem dX7_hours_16 : decode cX7_hours 16 = .ok (.iload_n 2, 1) := by decide +kernel
theorem dX7_hours_17 : decode cX7_hours 17 = .ok (.iconst 2, 1) := by decide +kernel
theorem dX7_hours_18 : decode cX7_hours 18 = .ok (.invokevirtual 59, 3) := by decide +kernel
theorem dX7_hours_21 : decode cX7_hours 21 = .ok (.iadd, 1) := by decide +kernel
theorem dX7_hours_22 : decode cX7_hours 22 = .ok (.istore_n 1, 1) := by decide +kernel
theorem dX7_hours_23 : decode cX7_hours 23 = .ok (.iinc 2 1, 3) := by decide +kernel
theorem dX7_hours_26 : decode cX7_hours 26 = .ok (.goto (-22), 3) := by decide +kernel
theorem dX7_hours_29 : decode cX7_hours 29 = .ok (.iload_n 1, 1) := by decide +kernel
theorem dX7_hours_30 : decode cX7_hours 30 = .ok (.ireturn, 1) := by decide +kernel
theorem dX7_endedWorth_0 : decode cX7_endedWorth 0 = .ok (.iconst 0, 1) := by decide +kernel
theorem dX7_endedWorth_1 : decode cX7_endedWorth 1 = .ok (.istore_n 1, 1) := by decide +kernel
theorem dX7_endedWorth_2 : decode cX7_endedWorth 2 = .ok (.iconst 0, 1) := by decide +kernel
theorem dX7_endedWorth_3 : decode cX7_endedWorth 3 = .ok (.istore_n 2, 1) := by decide +kernel
theorem dX7_endedWorth_4 : decode cX7_endedWorth 4 = .ok (.iload_n 2, 1) := by decide +kernel
theorem dX7_endedWorth_5 : decode cX7_endedWorth 5 = .ok (.bipush 8, 2) := by decide +kernel
theorem dX7_endedWorth_7 : decode cX7_endedWorth 7 = .ok (.if_icmp .ge 43, 3) := by decide +kernel
theorem dX7_endedWorth_10 : decode cX7_endedWorth 10 = .ok (.iload_n 1, 1) := by decide +kernel
theorem dX7_endedWorth_11 : decode cX7_endedWorth 11 = .ok (.aload_n 0, 1) := by decide +kernel
theorem dX7_endedWorth_12 : decode cX7_endedWorth 12 = .ok (.iload_n 2, 1) := by decide +kernel
theorem dX7_endedWorth_13 : decode cX7_endedWorth 13 = .ok (.iconst 0, 1) := by decide +kernel
theorem dX7_endedWorth_14 : decode cX7_endedWorth 14 = .ok (.invokevirtual 109, 3) := by decide +kernel
theorem dX7_endedWorth_17 : decode cX7_endedWorth 17 = .ok (.ifCond .le 24, 3) := by decide +kernel
theorem dX7_endedWorth_20 : decode cX7_endedWorth 20 = .ok (.aload_n 0, 1) := by decide +kernel
theorem dX7_endedWorth_21 : decode cX7_endedWorth 21 = .ok (.iload_n 2, 1) := by decide +kernel
theorem dX7_endedWorth_22 : decode cX7_endedWorth 22 = .ok (.invokevirtual 103, 3) := by decide +kernel
theorem dX7_endedWorth_25 : decode cX7_endedWorth 25 = .ok (.ifCond .ne 16, 3) := by decide +kernel
theorem dX7_endedWorth_28 : decode cX7_endedWorth 28 = .ok (.aload_n 0, 1) := by decide +kernel
theorem dX7_endedWorth_29 : decode cX7_endedWorth 29 = .ok (.getfield 9, 3) := by decide +kernel
theorem dX7_endedWorth_32 : decode cX7_endedWorth 32 = .ok (.iconst 4, 1) := by decide +kernel
theorem dX7_endedWorth_33 : decode cX7_endedWorth 33 = .ok (.iconst 2, 1) := by decide +kernel
theorem dX7_endedWorth_34 : decode cX7_endedWorth 34 = .ok (.iload_n 2, 1) := by decide +kernel
theorem dX7_endedWorth_35 : decode cX7_endedWorth 35 = .ok (.imul, 1) := by decide +kernel
theorem dX7_endedWorth_36 : decode cX7_endedWorth 36 = .ok (.iadd, 1) := by decide +kernel
theorem dX7_endedWorth_37 : decode cX7_endedWorth 37 = .ok (.iaload, 1) := by decide +kernel
theorem dX7_endedWorth_38 : decode cX7_endedWorth 38 = .ok (.goto 4, 3) := by decide +kernel
theorem dX7_endedWorth_41 : decode cX7_endedWorth 41 = .ok (.iconst 0, 1) := by decide +kernel
theorem dX7_endedWorth_42 : decode cX7_endedWorth 42 = .ok (.iadd, 1) := by decide +kernel
theorem dX7_endedWorth_43 : decode cX7_endedWorth 43 = .ok (.istore_n 1, 1) := by decide +kernel
theorem dX7_endedWorth_44 : decode cX7_endedWorth 44 = .ok (.iinc 2 1, 3) := by decide +kernel
theorem dX7_endedWorth_47 : decode cX7_endedWorth 47 = .ok (.goto (-43), 3) := by decide +kernel
theorem dX7_endedWorth_50 : decode cX7_endedWorth 50 = .ok (.iload_n 1, 1) := by decide +kernel
theorem dX7_endedWorth_51 : decode cX7_endedWorth 51 = .ok (.ireturn, 1) := by decide +kernel
theorem dX7_openNames_0 : decode cX7_openNames 0 = .ok (.iconst 0, 1) := by decide +kernel
theorem dX7_openNames_1 : decode cX7_openNames 1 = .ok (.istore_n 1, 1) := by decide +kernel
theorem dX7_openNames_2 : decode cX7_openNames 2 = .ok (.iconst 0, 1) := by decide +kernel
theorem dX7_openNames_3 : decode cX7_openNames 3 = .ok (.istore_n 2, 1) := by decide +kernel
theorem dX7_openNames_4 : decode cX7_openNames 4 = .ok (.iload_n 2, 1) := by decide +kernel
theorem dX7_openNames_5 : decode cX7_openNames 5 = .ok (.bipush 8, 2) := by decide +kernel
theorem dX7_openNames_7 : decode cX7_openNames 7 = .ok (.if_icmp .ge 27, 3) := by decide +kernel
theorem dX7_openNames_10 : decode cX7_openNames 10 = .ok (.iload_n 1, 1) := by decide +kernel
theorem dX7_openNames_11 : decode cX7_openNames 11 = .ok (.aload_n 0, 1) := by decide +kernel
theorem dX7_openNames_12 : decode cX7_openNames 12 = .ok (.iload_n 2, 1) := by decide +kernel
theorem dX7_openNames_13 : decode cX7_openNames 13 = .ok (.invokevirtual 103, 3) := by decide +kernel
theorem dX7_openNames_16 : decode cX7_openNames 16 = .ok (.ifCond .eq 9, 3) := by decide +kernel
theorem dX7_openNames_19 : decode cX7_openNames 19 = .ok (.iconst 1, 1) := by decide +kernel
theorem dX7_openNames_20 : decode cX7_openNames 20 = .ok (.iload_n 2, 1) := by decide +kernel
theorem dX7_openNames_21 : decode cX7_openNames 21 = .ok (.ishl, 1) := by decide +kernel
theorem dX7_openNames_22 : decode cX7_openNames 22 = .ok (.goto 4, 3) := by decide +kernel
theorem dX7_openNames_25 : decode cX7_openNames 25 = .ok (.iconst 0, 1) := by decide +kernel
theorem dX7_openNames_26 : decode cX7_openNames 26 = .ok (.ior, 1) := by decide +kernel
theorem dX7_openNames_27 : decode cX7_openNames 27 = .ok (.istore_n 1, 1) := by decide +kernel
theorem dX7_openNames_28 : decode cX7_openNames 28 = .ok (.iinc 2 1, 3) := by decide +kernel
theorem dX7_openNames_31 : decode cX7_openNames 31 = .ok (.goto (-27), 3) := by decide +kernel
theorem dX7_openNames_34 : decode cX7_openNames 34 = .ok (.iload_n 1, 1) := by decide +kernel
theorem dX7_openNames_35 : decode cX7_openNames 35 = .ok (.ireturn, 1) := by decide +kernel
theorem dX7_allLives_0 : decode cX7_allLives 0 = .ok (.iconst 0, 1) := by decide +kernel
theorem dX7_allLives_1 : decode cX7_allLives 1 = .ok (.istore_n 1, 1) := by decide +kernel
theorem dX7_allLives_2 : decode cX7_allLives 2 = .ok (.iconst 0, 1) := by decide +kernel
theorem dX7_allLives_3 : decode cX7_allLives 3 = .ok (.istore_n 2, 1) := by decide +kernel
theorem dX7_allLives_4 : decode cX7_allLives 4 = .ok (.iload_n 2, 1) := by decide +kernel
theorem dX7_allLives_5 : decode cX7_allLives 5 = .ok (.bipush 8, 2) := by decide +kernel
theorem dX7_allLives_7 : decode cX7_allLives 7 = .ok (.if_icmp .ge 24, 3) := by decide +kernel
theorem dX7_allLives_10 : decode cX7_allLives 10 = .ok (.iload_n 1, 1) := by decide +kernel
theorem dX7_allLives_11 : decode cX7_allLives 11 = .ok (.aload_n 0, 1) := by decide +kernel
theorem dX7_allLives_12 : decode cX7_allLives 12 = .ok (.getfield 9, 3) := by decide +kernel
theorem dX7_allLives_15 : decode cX7_allLives 15 = .ok (.iconst 4, 1) := by decide +kernel
theorem dX7_allLives_16 : decode cX7_allLives 16 = .ok (.iconst 2, 1) := by decide +kernel
theorem dX7_allLives_17 : decode cX7_allLives 17 = .ok (.iload_n 2, 1) := by decide +kernel
theorem dX7_allLives_18 : decode cX7_allLives 18 = .ok (.imul, 1) := by decide +kernel
theorem dX7_allLives_19 : decode cX7_allLives 19 = .ok (.iadd, 1) := by decide +kernel
theorem dX7_allLives_20 : decode cX7_allLives 20 = .ok (.iconst 1, 1) := by decide +kernel
theorem dX7_allLives_21 : decode cX7_allLives 21 = .ok (.iadd, 1) := by decide +kernel
theorem dX7_allLives_22 : decode cX7_allLives 22 = .ok (.iaload, 1) := by decide +kernel
theorem dX7_allLives_23 : decode cX7_allLives 23 = .ok (.iadd, 1) := by decide +kernel
theorem dX7_allLives_24 : decode cX7_allLives 24 = .ok (.istore_n 1, 1) := by decide +kernel
theorem dX7_allLives_25 : decode cX7_allLives 25 = .ok (.iinc 2 1, 3) := by decide +kernel
theorem dX7_allLives_28 : decode cX7_allLives 28 = .ok (.goto (-24), 3) := by decide +kernel
theorem dX7_allLives_31 : decode cX7_allLives 31 = .ok (.iload_n 1, 1) := by decide +kernel
theorem dX7_allLives_32 : decode cX7_allLives 32 = .ok (.ireturn, 1) := by decide +kernel
theorem dX7_ahead_0 : decode cX7_ahead 0 = .ok (.iload_n 1, 1) := by decide +kernel
theorem dX7_ahead_1 : decode cX7_ahead 1 = .ok (.i2l, 1) := by decide +kernel
theorem dX7_ahead_2 : decode cX7_ahead 2 = .ok (.lconst 0, 1) := by decide +kernel
theorem dX7_ahead_3 : decode cX7_ahead 3 = .ok (.ldc2_w 181, 3) := by decide +kernel
theorem dX7_ahead_6 : decode cX7_ahead 6 = .ok (.invokestatic 51, 3) := by decide +kernel
theorem dX7_ahead_9 : decode cX7_ahead 9 = .ok (.ifCond .eq 15, 3) := by decide +kernel
theorem dX7_ahead_12 : decode cX7_ahead 12 = .ok (.iload_n 2, 1) := by decide +kernel
theorem dX7_ahead_13 : decode cX7_ahead 13 = .ok (.i2l, 1) := by decide +kernel
theorem dX7_ahead_14 : decode cX7_ahead 14 = .ok (.lconst 0, 1) := by decide +kernel
theorem dX7_ahead_15 : decode cX7_ahead 15 = .ok (.ldc2_w 183, 3) := by decide +kernel
theorem dX7_ahead_18 : decode cX7_ahead 18 = .ok (.invokestatic 51, 3) := by decide +kernel
theorem dX7_ahead_21 : decode cX7_ahead 21 = .ok (.ifCond .ne 10, 3) := by decide +kernel
theorem dX7_ahead_24 : decode cX7_ahead 24 = .ok (.aload_n 0, 1) := by decide +kernel
theorem dX7_ahead_25 : decode cX7_ahead 25 = .ok (.ldc 43, 2) := by decide +kernel
theorem dX7_ahead_27 : decode cX7_ahead 27 = .ok (.invokevirtual 45, 3) := by decide +kernel
theorem dX7_ahead_30 : decode cX7_ahead 30 = .ok (.ireturn, 1) := by decide +kernel
theorem dX7_ahead_31 : decode cX7_ahead 31 = .ok (.aload_n 0, 1) := by decide +kernel
theorem dX7_ahead_32 : decode cX7_ahead 32 = .ok (.iload_n 1, 1) := by decide +kernel
theorem dX7_ahead_33 : decode cX7_ahead 33 = .ok (.invokevirtual 172, 3) := by decide +kernel
theorem dX7_ahead_36 : decode cX7_ahead 36 = .ok (.ifCond .eq 10, 3) := by decide +kernel
theorem dX7_ahead_39 : decode cX7_ahead 39 = .ok (.aload_n 0, 1) := by decide +kernel
theorem dX7_ahead_40 : decode cX7_ahead 40 = .ok (.ldc 130, 2) := by decide +kernel
theorem dX7_ahead_42 : decode cX7_ahead 42 = .ok (.invokevirtual 45, 3) := by decide +kernel
theorem dX7_ahead_45 : decode cX7_ahead 45 = .ok (.ireturn, 1) := by decide +kernel
theorem dX7_ahead_46 : decode cX7_ahead 46 = .ok (.aload_n 0, 1) := by decide +kernel
theorem dX7_ahead_47 : decode cX7_ahead 47 = .ok (.getfield 9, 3) := by decide +kernel
theorem dX7_ahead_50 : decode cX7_ahead 50 = .ok (.aload_n 0, 1) := by decide +kernel
theorem dX7_ahead_51 : decode cX7_ahead 51 = .ok (.getfield 16, 3) := by decide +kernel
theorem dX7_ahead_54 : decode cX7_ahead 54 = .ok (.invokestatic 185, 3) := by decide +kernel
theorem dX7_ahead_57 : decode cX7_ahead 57 = .ok (.aload_n 0, 1) := by decide +kernel
theorem dX7_ahead_58 : decode cX7_ahead 58 = .ok (.iload_n 1, 1) := by decide +kernel
theorem dX7_ahead_59 : decode cX7_ahead 59 = .ok (.invokevirtual 178, 3) := by decide +kernel
theorem dX7_ahead_62 : decode cX7_ahead 62 = .ok (.iload_n 2, 1) := by decide +kernel
theorem dX7_ahead_63 : decode cX7_ahead 63 = .ok (.ifCond .ne 10, 3) := by decide +kernel
theorem dX7_ahead_66 : decode cX7_ahead 66 = .ok (.aload_n 0, 1) := by decide +kernel
theorem dX7_ahead_67 : decode cX7_ahead 67 = .ok (.invokevirtual 164, 3) := by decide +kernel
theorem dX7_ahead_70 : decode cX7_ahead 70 = .ok (.goto 43, 3) := by decide +kernel
theorem dX7_ahead_73 : decode cX7_ahead 73 = .ok (.iload_n 2, 1) := by decide +kernel
theorem dX7_ahead_74 : decode cX7_ahead 74 = .ok (.iconst 1, 1) := by decide +kernel
theorem dX7_ahead_75 : decode cX7_ahead 75 = .ok (.if_icmp .ne 10, 3) := by decide +kernel
theorem dX7_ahead_78 : decode cX7_ahead 78 = .ok (.aload_n 0, 1) := by decide +kernel
theorem dX7_ahead_79 : decode cX7_ahead 79 = .ok (.invokevirtual 189, 3) := by decide +kernel
theorem dX7_ahead_82 : decode cX7_ahead 82 = .ok (.goto 31, 3) := by decide +kernel
theorem dX7_ahead_85 : decode cX7_ahead 85 = .ok (.iload_n 2, 1) := by decide +kernel
theorem dX7_ahead_86 : decode cX7_ahead 86 = .ok (.iconst 2, 1) := by decide +kernel
theorem dX7_ahead_87 : decode cX7_ahead 87 = .ok (.if_icmp .ne 10, 3) := by decide +kernel
theorem dX7_ahead_90 : decode cX7_ahead 90 = .ok (.aload_n 0, 1) := by decide +kernel
theorem dX7_ahead_91 : decode cX7_ahead 91 = .ok (.invokevirtual 192, 3) := by decide +kernel
theorem dX7_ahead_94 : decode cX7_ahead 94 = .ok (.goto 19, 3) := by decide +kernel
theorem dX7_ahead_97 : decode cX7_ahead 97 = .ok (.iload_n 2, 1) := by decide +kernel
theorem dX7_ahead_98 : decode cX7_ahead 98 = .ok (.iconst 3, 1) := by decide +kernel
theorem dX7_ahead_99 : decode cX7_ahead 99 = .ok (.if_icmp .ne 10, 3) := by decide +kernel
theorem dX7_ahead_102 : decode cX7_ahead 102 = .ok (.aload_n 0, 1) := by decide +kernel
theorem dX7_ahead_103 : decode cX7_ahead 103 = .ok (.invokevirtual 195, 3) := by decide +kernel
theorem dX7_ahead_106 : decode cX7_ahead 106 = .ok (.goto 7, 3) := by decide +kernel
theorem dX7_ahead_109 : decode cX7_ahead 109 = .ok (.aload_n 0, 1) := by decide +kernel
theorem dX7_ahead_110 : decode cX7_ahead 110 = .ok (.invokevirtual 198, 3) := by decide +kernel
theorem dX7_ahead_113 : decode cX7_ahead 113 = .ok (.istore_n 3, 1) := by decide +kernel
theorem dX7_ahead_114 : decode cX7_ahead 114 = .ok (.aload_n 0, 1) := by decide +kernel
theorem dX7_ahead_115 : decode cX7_ahead 115 = .ok (.getfield 16, 3) := by decide +kernel
theorem dX7_ahead_118 : decode cX7_ahead 118 = .ok (.aload_n 0, 1) := by decide +kernel
theorem dX7_ahead_119 : decode cX7_ahead 119 = .ok (.getfield 9, 3) := by decide +kernel
theorem dX7_ahead_122 : decode cX7_ahead 122 = .ok (.invokestatic 185, 3) := by decide +kernel
theorem dX7_ahead_125 : decode cX7_ahead 125 = .ok (.iload_n 3, 1) := by decide +kernel
theorem dX7_ahead_126 : decode cX7_ahead 126 = .ok (.ireturn, 1) := by decide +kernel
theorem dX7_overIn_0 : decode cX7_overIn 0 = .ok (.aload_n 0, 1) := by decide +kernel
theorem dX7_overIn_1 : decode cX7_overIn 1 = .ok (.getfield 9, 3) := by decide +kernel
theorem dX7_overIn_4 : decode cX7_overIn 4 = .ok (.aload_n 0, 1) := by decide +kernel
theorem dX7_overIn_5 : decode cX7_overIn 5 = .ok (.getfield 16, 3) := by decide +kernel
theorem dX7_overIn_8 : decode cX7_overIn 8 = .ok (.invokestatic 185, 3) := by decide +kernel
theorem dX7_overIn_11 : decode cX7_overIn 11 = .ok (.iconst 0, 1) := by decide +kernel
theorem dX7_overIn_12 : decode cX7_overIn 12 = .ok (.istore 4, 2) := by decide +kernel
theorem dX7_overIn_14 : decode cX7_overIn 14 = .ok (.iload 4, 2) := by decide +kernel
theorem dX7_overIn_16 : decode cX7_overIn 16 = .ok (.iload_n 3, 1) := by decide +kernel
theorem dX7_overIn_17 : decode cX7_overIn 17 = .ok (.if_icmp .gt 42, 3) := by decide +kernel
theorem dX7_overIn_20 : decode cX7_overIn 20 = .ok (.iload_n 1, 1) := by decide +kernel
theorem dX7_overIn_21 : decode cX7_overIn 21 = .ok (.ifCond .lt 14, 3) := by decide +kernel
theorem dX7_overIn_24 : decode cX7_overIn 24 = .ok (.aload_n 0, 1) := by decide +kernel
theorem dX7_overIn_25 : decode cX7_overIn 25 = .ok (.iload_n 1, 1) := by decide +kernel
theorem dX7_overIn_26 : decode cX7_overIn 26 = .ok (.invokevirtual 103, 3) := by decide +kernel
theorem dX7_overIn_29 : decode cX7_overIn 29 = .ok (.ifCond .eq 30, 3) := by decide +kernel
theorem dX7_overIn_32 : decode cX7_overIn 32 = .ok (.goto 11, 3) := by decide +kernel
theorem dX7_overIn_35 : decode cX7_overIn 35 = .ok (.aload_n 0, 1) := by decide +kernel
theorem dX7_overIn_36 : decode cX7_overIn 36 = .ok (.iload_n 2, 1) := by decide +kernel
theorem dX7_overIn_37 : decode cX7_overIn 37 = .ok (.invokevirtual 85, 3) := by decide +kernel
theorem dX7_overIn_40 : decode cX7_overIn 40 = .ok (.ifCond .ne 19, 3) := by decide +kernel
theorem dX7_overIn_43 : decode cX7_overIn 43 = .ok (.iload 4, 2) := by decide +kernel
theorem dX7_overIn_45 : decode cX7_overIn 45 = .ok (.iload_n 3, 1) := by decide +kernel
theorem dX7_overIn_46 : decode cX7_overIn 46 = .ok (.if_icmp .ge 7, 3) := by decide +kernel
theorem dX7_overIn_49 : decode cX7_overIn 49 = .ok (.aload_n 0, 1) := by decide +kernel
theorem dX7_overIn_50 : decode cX7_overIn 50 = .ok (.invokevirtual 167, 3) := by decide +kernel
theorem dX7_overIn_53 : decode cX7_overIn 53 = .ok (.iinc 4 1, 3) := by decide +kernel
theorem dX7_overIn_56 : decode cX7_overIn 56 = .ok (.goto (-42), 3) := by decide +kernel
theorem dX7_overIn_59 : decode cX7_overIn 59 = .ok (.aload_n 0, 1) := by decide +kernel
theorem dX7_overIn_60 : decode cX7_overIn 60 = .ok (.getfield 16, 3) := by decide +kernel
theorem dX7_overIn_63 : decode cX7_overIn 63 = .ok (.aload_n 0, 1) := by decide +kernel
theorem dX7_overIn_64 : decode cX7_overIn 64 = .ok (.getfield 9, 3) := by decide +kernel
theorem dX7_overIn_67 : decode cX7_overIn 67 = .ok (.invokestatic 185, 3) := by decide +kernel
theorem dX7_overIn_70 : decode cX7_overIn 70 = .ok (.iload 4, 2) := by decide +kernel
theorem dX7_overIn_72 : decode cX7_overIn 72 = .ok (.ireturn, 1) := by decide +kernel
theorem dX7_shut_0 : decode cX7_shut 0 = .ok (.iload_n 1, 1) := by decide +kernel
theorem dX7_shut_1 : decode cX7_shut 1 = .ok (.invokestatic 66, 3) := by decide +kernel
theorem dX7_shut_4 : decode cX7_shut 4 = .ok (.ifCond .ne 10, 3) := by decide +kernel
theorem dX7_shut_7 : decode cX7_shut 7 = .ok (.aload_n 0, 1) := by decide +kernel
theorem dX7_shut_8 : decode cX7_shut 8 = .ok (.ldc 43, 2) := by decide +kernel
theorem dX7_shut_10 : decode cX7_shut 10 = .ok (.invokevirtual 45, 3) := by decide +kernel
theorem dX7_shut_13 : decode cX7_shut 13 = .ok (.ireturn, 1) := by decide +kernel
theorem dX7_shut_14 : decode cX7_shut 14 = .ok (.aload_n 0, 1) := by decide +kernel
theorem dX7_shut_15 : decode cX7_shut 15 = .ok (.bipush 100, 2) := by decide +kernel
theorem dX7_shut_17 : decode cX7_shut 17 = .ok (.invokevirtual 172, 3) := by decide +kernel
theorem dX7_shut_20 : decode cX7_shut 20 = .ok (.ifCond .eq 10, 3) := by decide +kernel
theorem dX7_shut_23 : decode cX7_shut 23 = .ok (.aload_n 0, 1) := by decide +kernel
theorem dX7_shut_24 : decode cX7_shut 24 = .ok (.ldc 130, 2) := by decide +kernel
theorem dX7_shut_26 : decode cX7_shut 26 = .ok (.invokevirtual 45, 3) := by decide +kernel
theorem dX7_shut_29 : decode cX7_shut 29 = .ok (.ireturn, 1) := by decide +kernel
theorem dX7_shut_30 : decode cX7_shut 30 = .ok (.aload_n 0, 1) := by decide +kernel
theorem dX7_shut_31 : decode cX7_shut 31 = .ok (.iload_n 1, 1) := by decide +kernel
theorem dX7_shut_32 : decode cX7_shut 32 = .ok (.iconst 0, 1) := by decide +kernel
theorem dX7_shut_33 : decode cX7_shut 33 = .ok (.bipush 100, 2) := by decide +kernel
theorem dX7_shut_35 : decode cX7_shut 35 = .ok (.invokevirtual 201, 3) := by decide +kernel
theorem dX7_shut_38 : decode cX7_shut 38 = .ok (.istore_n 2, 1) := by decide +kernel
theorem dX7_shut_39 : decode cX7_shut 39 = .ok (.iload_n 2, 1) := by decide +kernel
theorem dX7_shut_40 : decode cX7_shut 40 = .ok (.bipush 100, 2) := by decide +kernel
theorem dX7_shut_42 : decode cX7_shut 42 = .ok (.if_icmp .le 12, 3) := by decide +kernel
theorem dX7_shut_45 : decode cX7_shut 45 = .ok (.aload_n 0, 1) := by decide +kernel
theorem dX7_shut_46 : decode cX7_shut 46 = .ok (.ldc 44, 2) := by decide +kernel
theorem dX7_shut_48 : decode cX7_shut 48 = .ok (.invokevirtual 45, 3) := by decide +kernel
theorem dX7_shut_51 : decode cX7_shut 51 = .ok (.goto 4, 3) := by decide +kernel
theorem dX7_shut_54 : decode cX7_shut 54 = .ok (.iload_n 2, 1) := by decide +kernel
theorem dX7_shut_55 : decode cX7_shut 55 = .ok (.ireturn, 1) := by decide +kernel
theorem dX7_ends_0 : decode cX7_ends 0 = .ok (.aload_n 0, 1) := by decide +kernel
theorem dX7_ends_1 : decode cX7_ends 1 = .ok (.iload_n 1, 1) := by decide +kernel
theorem dX7_ends_2 : decode cX7_ends 2 = .ok (.invokevirtual 91, 3) := by decide +kernel
theorem dX7_ends_5 : decode cX7_ends 5 = .ok (.ifCond .ne 10, 3) := by decide +kernel
theorem dX7_ends_8 : decode cX7_ends 8 = .ok (.aload_n 0, 1) := by decide +kernel
theorem dX7_ends_9 : decode cX7_ends 9 = .ok (.ldc 43, 2) := by decide +kernel
theorem dX7_ends_11 : decode cX7_ends 11 = .ok (.invokevirtual 45, 3) := by decide +kernel
theorem dX7_ends_14 : decode cX7_ends 14 = .ok (.ireturn, 1) := by decide +kernel
theorem dX7_ends_15 : decode cX7_ends 15 = .ok (.aload_n 0, 1) := by decide +kernel
theorem dX7_ends_16 : decode cX7_ends 16 = .ok (.bipush 100, 2) := by decide +kernel
theorem dX7_ends_18 : decode cX7_ends 18 = .ok (.invokevirtual 172, 3) := by decide +kernel
theorem dX7_ends_21 : decode cX7_ends 21 = .ok (.ifCond .eq 10, 3) := by decide +kernel
theorem dX7_ends_24 : decode cX7_ends 24 = .ok (.aload_n 0, 1) := by decide +kernel
theorem dX7_ends_25 : decode cX7_ends 25 = .ok (.ldc 130, 2) := by decide +kernel
theorem dX7_ends_27 : decode cX7_ends 27 = .ok (.invokevirtual 45, 3) := by decide +kernel
theorem dX7_ends_30 : decode cX7_ends 30 = .ok (.ireturn, 1) := by decide +kernel
theorem dX7_ends_31 : decode cX7_ends 31 = .ok (.aload_n 0, 1) := by decide +kernel
theorem dX7_ends_32 : decode cX7_ends 32 = .ok (.iconst (-1), 1) := by decide +kernel
theorem dX7_ends_33 : decode cX7_ends 33 = .ok (.iload_n 1, 1) := by decide +kernel
theorem dX7_ends_34 : decode cX7_ends 34 = .ok (.bipush 100, 2) := by decide +kernel
theorem dX7_ends_36 : decode cX7_ends 36 = .ok (.invokevirtual 201, 3) := by decide +kernel
theorem dX7_ends_39 : decode cX7_ends 39 = .ok (.istore_n 2, 1) := by decide +kernel
theorem dX7_ends_40 : decode cX7_ends 40 = .ok (.iload_n 2, 1) := by decide +kernel
theorem dX7_ends_41 : decode cX7_ends 41 = .ok (.bipush 100, 2) := by decide +kernel
theorem dX7_ends_43 : decode cX7_ends 43 = .ok (.if_icmp .le 12, 3) := by decide +kernel
theorem dX7_ends_46 : decode cX7_ends 46 = .ok (.aload_n 0, 1) := by decide +kernel
theorem dX7_ends_47 : decode cX7_ends 47 = .ok (.ldc 44, 2) := by decide +kernel
theorem dX7_ends_49 : decode cX7_ends 49 = .ok (.invokevirtual 45, 3) := by decide +kernel
theorem dX7_ends_52 : decode cX7_ends 52 = .ok (.goto 4, 3) := by decide +kernel
theorem dX7_ends_55 : decode cX7_ends 55 = .ok (.iload_n 2, 1) := by decide +kernel
theorem dX7_ends_56 : decode cX7_ends 56 = .ok (.ireturn, 1) := by decide +kernel
theorem dX7_isShutInTime_0 : decode cX7_isShutInTime 0 = .ok (.bipush 40, 2) := by decide +kernel
theorem dX7_isShutInTime_2 : decode cX7_isShutInTime 2 = .ok (.aload_n 0, 1) := by decide +kernel
theorem dX7_isShutInTime_3 : decode cX7_isShutInTime 3 = .ok (.iload_n 1, 1) := by decide +kernel
theorem dX7_isShutInTime_4 : decode cX7_isShutInTime 4 = .ok (.iconst 1, 1) := by decide +kernel
theorem dX7_isShutInTime_5 : decode cX7_isShutInTime 5 = .ok (.invokevirtual 63, 3) := by decide +kernel
theorem dX7_isShutInTime_8 : decode cX7_isShutInTime 8 = .ok (.isub, 1) := by decide +kernel
theorem dX7_isShutInTime_9 : decode cX7_isShutInTime 9 = .ok (.istore_n 3, 1) := by decide +kernel
theorem dX7_isShutInTime_10 : decode cX7_isShutInTime 10 = .ok (.aload_n 0, 1) := by decide +kernel
theorem dX7_isShutInTime_11 : decode cX7_isShutInTime 11 = .ok (.iload_n 2, 1) := by decide +kernel
theorem dX7_isShutInTime_12 : decode cX7_isShutInTime 12 = .ok (.iconst 0, 1) := by decide +kernel
theorem dX7_isShutInTime_13 : decode cX7_isShutInTime 13 = .ok (.iload_n 3, 1) := by decide +kernel
theorem dX7_isShutInTime_14 : decode cX7_isShutInTime 14 = .ok (.invokevirtual 201, 3) := by decide +kernel
theorem dX7_isShutInTime_17 : decode cX7_isShutInTime 17 = .ok (.iload_n 3, 1) := by decide +kernel
theorem dX7_isShutInTime_18 : decode cX7_isShutInTime 18 = .ok (.if_icmp .gt 7, 3) := by decide +kernel
theorem dX7_isShutInTime_21 : decode cX7_isShutInTime 21 = .ok (.iconst 1, 1) := by decide +kernel
theorem dX7_isShutInTime_22 : decode cX7_isShutInTime 22 = .ok (.goto 4, 3) := by decide +kernel
theorem dX7_isShutInTime_25 : decode cX7_isShutInTime 25 = .ok (.iconst 0, 1) := by decide +kernel
theorem dX7_isShutInTime_26 : decode cX7_isShutInTime 26 = .ok (.ireturn, 1) := by decide +kernel
theorem dX7_choose_0 : decode cX7_choose 0 = .ok (.aload_n 0, 1) := by decide +kernel
theorem dX7_choose_1 : decode cX7_choose 1 = .ok (.iload_n 1, 1) := by decide +kernel
theorem dX7_choose_2 : decode cX7_choose 2 = .ok (.invokevirtual 123, 3) := by decide +kernel
theorem dX7_choose_5 : decode cX7_choose 5 = .ok (.ifCond .ne 10, 3) := by decide +kernel
theorem dX7_choose_8 : decode cX7_choose 8 = .ok (.aload_n 0, 1) := by decide +kernel
theorem dX7_choose_9 : decode cX7_choose 9 = .ok (.ldc 43, 2) := by decide +kernel
theorem dX7_choose_11 : decode cX7_choose 11 = .ok (.invokevirtual 45, 3) := by decide +kernel
theorem dX7_choose_14 : decode cX7_choose 14 = .ok (.ireturn, 1) := by decide +kernel
theorem dX7_choose_15 : decode cX7_choose 15 = .ok (.aload_n 0, 1) := by decide +kernel
theorem dX7_choose_16 : decode cX7_choose 16 = .ok (.iload_n 1, 1) := by decide +kernel
theorem dX7_choose_17 : decode cX7_choose 17 = .ok (.iconst 0, 1) := by decide +kernel
theorem dX7_choose_18 : decode cX7_choose 18 = .ok (.invokevirtual 63, 3) := by decide +kernel
theorem dX7_choose_21 : decode cX7_choose 21 = .ok (.ifCond .ge 23, 3) := by decide +kernel
theorem dX7_choose_24 : decode cX7_choose 24 = .ok (.aload_n 0, 1) := by decide +kernel
theorem dX7_choose_25 : decode cX7_choose 25 = .ok (.iload_n 1, 1) := by decide +kernel
theorem dX7_choose_26 : decode cX7_choose 26 = .ok (.iconst 1, 1) := by decide +kernel
theorem dX7_choose_27 : decode cX7_choose 27 = .ok (.invokevirtual 63, 3) := by decide +kernel
theorem dX7_choose_30 : decode cX7_choose 30 = .ok (.bipush 40, 2) := by decide +kernel
theorem dX7_choose_32 : decode cX7_choose 32 = .ok (.if_icmp .eq 12, 3) := by decide +kernel
theorem dX7_choose_35 : decode cX7_choose 35 = .ok (.aload_n 0, 1) := by decide +kernel
theorem dX7_choose_36 : decode cX7_choose 36 = .ok (.bipush 40, 2) := by decide +kernel
theorem dX7_choose_38 : decode cX7_choose 38 = .ok (.invokevirtual 172, 3) := by decide +kernel
theorem dX7_choose_41 : decode cX7_choose 41 = .ok (.ifCond .eq 10, 3) := by decide +kernel
theorem dX7_choose_44 : decode cX7_choose 44 = .ok (.aload_n 0, 1) := by decide +kernel
theorem dX7_choose_45 : decode cX7_choose 45 = .ok (.ldc 130, 2) := by decide +kernel
theorem dX7_choose_47 : decode cX7_choose 47 = .ok (.invokevirtual 45, 3) := by decide +kernel
theorem dX7_choose_50 : decode cX7_choose 50 = .ok (.ireturn, 1) := by decide +kernel
theorem dX7_choose_51 : decode cX7_choose 51 = .ok (.iconst (-1), 1) := by decide +kernel
theorem dX7_choose_52 : decode cX7_choose 52 = .ok (.istore_n 2, 1) := by decide +kernel
theorem dX7_choose_53 : decode cX7_choose 53 = .ok (.iconst 0, 1) := by decide +kernel
theorem dX7_choose_54 : decode cX7_choose 54 = .ok (.istore_n 3, 1) := by decide +kernel
theorem dX7_choose_55 : decode cX7_choose 55 = .ok (.iload_n 3, 1) := by decide +kernel
theorem dX7_choose_56 : decode cX7_choose 56 = .ok (.bipush 8, 2) := by decide +kernel
theorem dX7_choose_58 : decode cX7_choose 58 = .ok (.if_icmp .ge 94, 3) := by decide +kernel
theorem dX7_choose_61 : decode cX7_choose 61 = .ok (.aload_n 0, 1) := by decide +kernel
theorem dX7_choose_62 : decode cX7_choose 62 = .ok (.iload_n 3, 1) := by decide +kernel
theorem dX7_choose_63 : decode cX7_choose 63 = .ok (.invokevirtual 103, 3) := by decide +kernel
theorem dX7_choose_66 : decode cX7_choose 66 = .ok (.ifCond .eq 80, 3) := by decide +kernel
theorem dX7_choose_69 : decode cX7_choose 69 = .ok (.aload_n 0, 1) := by decide +kernel
theorem dX7_choose_70 : decode cX7_choose 70 = .ok (.iload_n 3, 1) := by decide +kernel
theorem dX7_choose_71 : decode cX7_choose 71 = .ok (.invokevirtual 106, 3) := by decide +kernel
theorem dX7_choose_74 : decode cX7_choose 74 = .ok (.ifCond .ge 72, 3) := by decide +kernel
theorem dX7_choose_77 : decode cX7_choose 77 = .ok (.iload_n 2, 1) := by decide +kernel
theorem dX7_choose_78 : decode cX7_choose 78 = .ok (.ifCond .lt 29, 3) := by decide +kernel
theorem dX7_choose_81 : decode cX7_choose 81 = .ok (.aload_n 0, 1) := by decide +kernel
theorem dX7_choose_82 : decode cX7_choose 82 = .ok (.getfield 9, 3) := by decide +kernel
theorem dX7_choose_85 : decode cX7_choose 85 = .ok (.iconst 4, 1) := by decide +kernel
theorem dX7_choose_86 : decode cX7_choose 86 = .ok (.iconst 2, 1) := by decide +kernel
theorem dX7_choose_87 : decode cX7_choose 87 = .ok (.iload_n 3, 1) := by decide +kernel
theorem dX7_choose_88 : decode cX7_choose 88 = .ok (.imul, 1) := by decide +kernel
theorem dX7_choose_89 : decode cX7_choose 89 = .ok (.iadd, 1) := by decide +kernel
theorem dX7_choose_90 : decode cX7_choose 90 = .ok (.iaload, 1) := by decide +kernel
theorem dX7_choose_91 : decode cX7_choose 91 = .ok (.aload_n 0, 1) := by decide +kernel
theorem dX7_choose_92 : decode cX7_choose 92 = .ok (.getfield 9, 3) := by decide +kernel
theorem dX7_choose_95 : decode cX7_choose 95 = .ok (.iconst 4, 1) := by decide +kernel
theorem dX7_choose_96 : decode cX7_choose 96 = .ok (.iconst 2, 1) := by decide +kernel
theorem dX7_choose_97 : decode cX7_choose 97 = .ok (.iload_n 2, 1) := by decide +kernel
theorem dX7_choose_98 : decode cX7_choose 98 = .ok (.imul, 1) := by decide +kernel
theorem dX7_choose_99 : decode cX7_choose 99 = .ok (.iadd, 1) := by decide +kernel
theorem dX7_choose_100 : decode cX7_choose 100 = .ok (.iaload, 1) := by decide +kernel
theorem dX7_choose_101 : decode cX7_choose 101 = .ok (.if_icmp .gt 6, 3) := by decide +kernel
theorem dX7_choose_104 : decode cX7_choose 104 = .ok (.goto 42, 3) := by decide +kernel
theorem dX7_choose_107 : decode cX7_choose 107 = .ok (.aload_n 0, 1) := by decide +kernel
theorem dX7_choose_108 : decode cX7_choose 108 = .ok (.getfield 9, 3) := by decide +kernel
theorem dX7_choose_111 : decode cX7_choose 111 = .ok (.bipush 100, 2) := by decide +kernel
theorem dX7_choose_113 : decode cX7_choose 113 = .ok (.iconst 4, 1) := by decide +kernel
theorem dX7_choose_114 : decode cX7_choose 114 = .ok (.iload_n 1, 1) := by decide +kernel
theorem dX7_choose_115 : decode cX7_choose 115 = .ok (.imul, 1) := by decide +kernel
theorem dX7_choose_116 : decode cX7_choose 116 = .ok (.iadd, 1) := by decide +kernel
theorem dX7_choose_117 : decode cX7_choose 117 = .ok (.iload_n 3, 1) := by decide +kernel
theorem dX7_choose_118 : decode cX7_choose 118 = .ok (.iastore, 1) := by decide +kernel
theorem dX7_choose_119 : decode cX7_choose 119 = .ok (.aload_n 0, 1) := by decide +kernel
theorem dX7_choose_120 : decode cX7_choose 120 = .ok (.iload_n 1, 1) := by decide +kernel
theorem dX7_choose_121 : decode cX7_choose 121 = .ok (.iload_n 3, 1) := by decide +kernel
theorem dX7_choose_122 : decode cX7_choose 122 = .ok (.invokevirtual 205, 3) := by decide +kernel
theorem dX7_choose_125 : decode cX7_choose 125 = .ok (.ifCond .eq 7, 3) := by decide +kernel
theorem dX7_choose_128 : decode cX7_choose 128 = .ok (.iload_n 3, 1) := by decide +kernel
theorem dX7_choose_129 : decode cX7_choose 129 = .ok (.goto 4, 3) := by decide +kernel
theorem dX7_choose_132 : decode cX7_choose 132 = .ok (.iload_n 2, 1) := by decide +kernel
theorem dX7_choose_133 : decode cX7_choose 133 = .ok (.istore_n 2, 1) := by decide +kernel
theorem dX7_choose_134 : decode cX7_choose 134 = .ok (.aload_n 0, 1) := by decide +kernel
theorem dX7_choose_135 : decode cX7_choose 135 = .ok (.getfield 9, 3) := by decide +kernel
theorem dX7_choose_138 : decode cX7_choose 138 = .ok (.bipush 100, 2) := by decide +kernel
theorem dX7_choose_140 : decode cX7_choose 140 = .ok (.iconst 4, 1) := by decide +kernel
theorem dX7_choose_141 : decode cX7_choose 141 = .ok (.iload_n 1, 1) := by decide +kernel
theorem dX7_choose_142 : decode cX7_choose 142 = .ok (.imul, 1) := by decide +kernel
theorem dX7_choose_143 : decode cX7_choose 143 = .ok (.iadd, 1) := by decide +kernel
theorem dX7_choose_144 : decode cX7_choose 144 = .ok (.iconst (-1), 1) := by decide +kernel
theorem dX7_choose_145 : decode cX7_choose 145 = .ok (.iastore, 1) := by decide +kernel
theorem dX7_choose_146 : decode cX7_choose 146 = .ok (.iinc 3 1, 3) := by decide +kernel
theorem dX7_choose_149 : decode cX7_choose 149 = .ok (.goto (-94), 3) := by decide +kernel
theorem dX7_choose_152 : decode cX7_choose 152 = .ok (.aload_n 0, 1) := by decide +kernel
theorem dX7_choose_153 : decode cX7_choose 153 = .ok (.iload_n 2, 1) := by decide +kernel
theorem dX7_choose_154 : decode cX7_choose 154 = .ok (.invokevirtual 208, 3) := by decide +kernel
theorem dX7_choose_157 : decode cX7_choose 157 = .ok (.ireturn, 1) := by decide +kernel
theorem dX7_handsFor_0 : decode cX7_handsFor 0 = .ok (.aload_n 0, 1) := by decide +kernel
theorem dX7_handsFor_1 : decode cX7_handsFor 1 = .ok (.iload_n 1, 1) := by decide +kernel
theorem dX7_handsFor_2 : decode cX7_handsFor 2 = .ok (.invokevirtual 123, 3) := by decide +kernel
theorem dX7_handsFor_5 : decode cX7_handsFor 5 = .ok (.ifCond .ne 10, 3) := by decide +kernel
theorem dX7_handsFor_8 : decode cX7_handsFor 8 = .ok (.aload_n 0, 1) := by decide +kernel
theorem dX7_handsFor_9 : decode cX7_handsFor 9 = .ok (.ldc 43, 2) := by decide +kernel
theorem dX7_handsFor_11 : decode cX7_handsFor 11 = .ok (.invokevirtual 45, 3) := by decide +kernel
theorem dX7_handsFor_14 : decode cX7_handsFor 14 = .ok (.ireturn, 1) := by decide +kernel
theorem dX7_handsFor_15 : decode cX7_handsFor 15 = .ok (.aload_n 0, 1) := by decide +kernel
theorem dX7_handsFor_16 : decode cX7_handsFor 16 = .ok (.iload_n 1, 1) := by decide +kernel
theorem dX7_handsFor_17 : decode cX7_handsFor 17 = .ok (.iconst 0, 1) := by decide +kernel
theorem dX7_handsFor_18 : decode cX7_handsFor 18 = .ok (.invokevirtual 63, 3) := by decide +kernel
theorem dX7_handsFor_21 : decode cX7_handsFor 21 = .ok (.ifCond .lt 12, 3) := by decide +kernel
theorem dX7_handsFor_24 : decode cX7_handsFor 24 = .ok (.aload_n 0, 1) := by decide +kernel
theorem dX7_handsFor_25 : decode cX7_handsFor 25 = .ok (.bipush 40, 2) := by decide +kernel
theorem dX7_handsFor_27 : decode cX7_handsFor 27 = .ok (.invokevirtual 172, 3) := by decide +kernel
theorem dX7_handsFor_30 : decode cX7_handsFor 30 = .ok (.ifCond .eq 10, 3) := by decide +kernel
theorem dX7_handsFor_33 : decode cX7_handsFor 33 = .ok (.aload_n 0, 1) := by decide +kernel
theorem dX7_handsFor_34 : decode cX7_handsFor 34 = .ok (.ldc 130, 2) := by decide +kernel
theorem dX7_handsFor_36 : decode cX7_handsFor 36 = .ok (.invokevirtual 45, 3) := by decide +kernel
theorem dX7_handsFor_39 : decode cX7_handsFor 39 = .ok (.ireturn, 1) := by decide +kernel
theorem dX7_handsFor_40 : decode cX7_handsFor 40 = .ok (.aload_n 0, 1) := by decide +kernel
theorem dX7_handsFor_41 : decode cX7_handsFor 41 = .ok (.iload_n 1, 1) := by decide +kernel
theorem dX7_handsFor_42 : decode cX7_handsFor 42 = .ok (.iconst 2, 1) := by decide +kernel
theorem dX7_handsFor_43 : decode cX7_handsFor 43 = .ok (.invokevirtual 63, 3) := by decide +kernel
theorem dX7_handsFor_46 : decode cX7_handsFor 46 = .ok (.istore_n 2, 1) := by decide +kernel
theorem dX7_handsFor_47 : decode cX7_handsFor 47 = .ok (.iconst (-1), 1) := by decide +kernel
theorem dX7_handsFor_48 : decode cX7_handsFor 48 = .ok (.istore_n 3, 1) := by decide +kernel
theorem dX7_handsFor_49 : decode cX7_handsFor 49 = .ok (.iconst 1, 1) := by decide +kernel
theorem dX7_handsFor_50 : decode cX7_handsFor 50 = .ok (.istore 4, 2) := by decide +kernel
theorem dX7_handsFor_52 : decode cX7_handsFor 52 = .ok (.iload 4, 2) := by decide +kernel
theorem dX7_handsFor_54 : decode cX7_handsFor 54 = .ok (.bipush 9, 2) := by decide +kernel
theorem dX7_handsFor_56 : decode cX7_handsFor 56 = .ok (.if_icmp .gt 49, 3) := by decide +kernel
theorem dX7_handsFor_59 : decode cX7_handsFor 59 = .ok (.iload_n 3, 1) := by decide +kernel
theorem dX7_handsFor_60 : decode cX7_handsFor 60 = .ok (.ifCond .ge 45, 3) := by decide +kernel
theorem dX7_handsFor_63 : decode cX7_handsFor 63 = .ok (.aload_n 0, 1) := by decide +kernel
theorem dX7_handsFor_64 : decode cX7_handsFor 64 = .ok (.getfield 9, 3) := by decide +kernel
theorem dX7_handsFor_67 : decode cX7_handsFor 67 = .ok (.bipush 100, 2) := by decide +kernel
theorem dX7_handsFor_69 : decode cX7_handsFor 69 = .ok (.iconst 4, 1) := by decide +kernel
theorem dX7_handsFor_70 : decode cX7_handsFor 70 = .ok (.iload_n 1, 1) := by decide +kernel
theorem dX7_handsFor_71 : decode cX7_handsFor 71 = .ok (.imul, 1) := by decide +kernel
theorem dX7_handsFor_72 : decode cX7_handsFor 72 = .ok (.iadd, 1) := by decide +kernel
theorem dX7_handsFor_73 : decode cX7_handsFor 73 = .ok (.iconst 2, 1) := by decide +kernel
theorem dX7_handsFor_74 : decode cX7_handsFor 74 = .ok (.iadd, 1) := by decide +kernel
theorem dX7_handsFor_75 : decode cX7_handsFor 75 = .ok (.iload 4, 2) := by decide +kernel
theorem dX7_handsFor_77 : decode cX7_handsFor 77 = .ok (.iastore, 1) := by decide +kernel
theorem dX7_handsFor_78 : decode cX7_handsFor 78 = .ok (.aload_n 0, 1) := by decide +kernel
theorem dX7_handsFor_79 : decode cX7_handsFor 79 = .ok (.iload_n 1, 1) := by decide +kernel
theorem dX7_handsFor_80 : decode cX7_handsFor 80 = .ok (.aload_n 0, 1) := by decide +kernel
theorem dX7_handsFor_81 : decode cX7_handsFor 81 = .ok (.iload_n 1, 1) := by decide +kernel
theorem dX7_handsFor_82 : decode cX7_handsFor 82 = .ok (.iconst 0, 1) := by decide +kernel
theorem dX7_handsFor_83 : decode cX7_handsFor 83 = .ok (.invokevirtual 63, 3) := by decide +kernel
theorem dX7_handsFor_86 : decode cX7_handsFor 86 = .ok (.invokevirtual 205, 3) := by decide +kernel
theorem dX7_handsFor_89 : decode cX7_handsFor 89 = .ok (.ifCond .eq 8, 3) := by decide +kernel
theorem dX7_handsFor_92 : decode cX7_handsFor 92 = .ok (.iload 4, 2) := by decide +kernel
theorem dX7_handsFor_94 : decode cX7_handsFor 94 = .ok (.goto 4, 3) := by decide +kernel
theorem dX7_handsFor_97 : decode cX7_handsFor 97 = .ok (.iconst (-1), 1) := by decide +kernel
theorem dX7_handsFor_98 : decode cX7_handsFor 98 = .ok (.istore_n 3, 1) := by decide +kernel
theorem dX7_handsFor_99 : decode cX7_handsFor 99 = .ok (.iinc 4 1, 3) := by decide +kernel
theorem dX7_handsFor_102 : decode cX7_handsFor 102 = .ok (.goto (-50), 3) := by decide +kernel
theorem dX7_handsFor_105 : decode cX7_handsFor 105 = .ok (.aload_n 0, 1) := by decide +kernel
theorem dX7_handsFor_106 : decode cX7_handsFor 106 = .ok (.getfield 9, 3) := by decide +kernel
theorem dX7_handsFor_109 : decode cX7_handsFor 109 = .ok (.bipush 100, 2) := by decide +kernel
theorem dX7_handsFor_111 : decode cX7_handsFor 111 = .ok (.iconst 4, 1) := by decide +kernel
theorem dX7_handsFor_112 : decode cX7_handsFor 112 = .ok (.iload_n 1, 1) := by decide +kernel
theorem dX7_handsFor_113 : decode cX7_handsFor 113 = .ok (.imul, 1) := by decide +kernel
theorem dX7_handsFor_114 : decode cX7_handsFor 114 = .ok (.iadd, 1) := by decide +kernel
theorem dX7_handsFor_115 : decode cX7_handsFor 115 = .ok (.iconst 2, 1) := by decide +kernel
theorem dX7_handsFor_116 : decode cX7_handsFor 116 = .ok (.iadd, 1) := by decide +kernel
theorem dX7_handsFor_117 : decode cX7_handsFor 117 = .ok (.iload_n 2, 1) := by decide +kernel
theorem dX7_handsFor_118 : decode cX7_handsFor 118 = .ok (.iastore, 1) := by decide +kernel
theorem dX7_handsFor_119 : decode cX7_handsFor 119 = .ok (.aload_n 0, 1) := by decide +kernel
theorem dX7_handsFor_120 : decode cX7_handsFor 120 = .ok (.iload_n 3, 1) := by decide +kernel
theorem dX7_handsFor_121 : decode cX7_handsFor 121 = .ok (.invokevirtual 208, 3) := by decide +kernel
theorem dX7_handsFor_124 : decode cX7_handsFor 124 = .ok (.ireturn, 1) := by decide +kernel
theorem dX7_mayGet_0 : decode cX7_mayGet 0 = .ok (.aload_n 0, 1) := by decide +kernel
theorem dX7_mayGet_1 : decode cX7_mayGet 1 = .ok (.iload_n 1, 1) := by decide +kernel
theorem dX7_mayGet_2 : decode cX7_mayGet 2 = .ok (.iconst 0, 1) := by decide +kernel
theorem dX7_mayGet_3 : decode cX7_mayGet 3 = .ok (.invokevirtual 63, 3) := by decide +kernel
theorem dX7_mayGet_6 : decode cX7_mayGet 6 = .ok (.ifCond .ge 18, 3) := by decide +kernel
theorem dX7_mayGet_9 : decode cX7_mayGet 9 = .ok (.aload_n 0, 1) := by decide +kernel
theorem dX7_mayGet_10 : decode cX7_mayGet 10 = .ok (.iload_n 1, 1) := by decide +kernel
theorem dX7_mayGet_11 : decode cX7_mayGet 11 = .ok (.iconst 1, 1) := by decide +kernel
theorem dX7_mayGet_12 : decode cX7_mayGet 12 = .ok (.invokevirtual 63, 3) := by decide +kernel
theorem dX7_mayGet_15 : decode cX7_mayGet 15 = .ok (.bipush 40, 2) := by decide +kernel
theorem dX7_mayGet_17 : decode cX7_mayGet 17 = .ok (.if_icmp .ge 7, 3) := by decide +kernel
theorem dX7_mayGet_20 : decode cX7_mayGet 20 = .ok (.iconst 1, 1) := by decide +kernel
theorem dX7_mayGet_21 : decode cX7_mayGet 21 = .ok (.goto 4, 3) := by decide +kernel
theorem dX7_mayGet_24 : decode cX7_mayGet 24 = .ok (.iconst 0, 1) := by decide +kernel
theorem dX7_mayGet_25 : decode cX7_mayGet 25 = .ok (.ireturn, 1) := by decide +kernel
theorem dX7_waiting_0 : decode cX7_waiting 0 = .ok (.iconst 0, 1) := by decide +kernel
theorem dX7_waiting_1 : decode cX7_waiting 1 = .ok (.istore_n 1, 1) := by decide +kernel
theorem dX7_waiting_2 : decode cX7_waiting 2 = .ok (.iconst 0, 1) := by decide +kernel
theorem dX7_waiting_3 : decode cX7_waiting 3 = .ok (.istore_n 2, 1) := by decide +kernel
theorem dX7_waiting_4 : decode cX7_waiting 4 = .ok (.iload_n 2, 1) := by decide +kernel
theorem dX7_waiting_5 : decode cX7_waiting 5 = .ok (.aload_n 0, 1) := by decide +kernel
theorem dX7_waiting_6 : decode cX7_waiting 6 = .ok (.getfield 9, 3) := by decide +kernel
theorem dX7_waiting_9 : decode cX7_waiting 9 = .ok (.iconst 3, 1) := by decide +kernel
theorem dX7_waiting_10 : decode cX7_waiting 10 = .ok (.iaload, 1) := by decide +kernel
theorem dX7_waiting_11 : decode cX7_waiting 11 = .ok (.if_icmp .ge 25, 3) := by decide +kernel
theorem dX7_waiting_14 : decode cX7_waiting 14 = .ok (.iload_n 1, 1) := by decide +kernel
theorem dX7_waiting_15 : decode cX7_waiting 15 = .ok (.aload_n 0, 1) := by decide +kernel
theorem dX7_waiting_16 : decode cX7_waiting 16 = .ok (.iload_n 2, 1) := by decide +kernel
theorem dX7_waiting_17 : decode cX7_waiting 17 = .ok (.invokevirtual 211, 3) := by decide +kernel
theorem dX7_waiting_20 : decode cX7_waiting 20 = .ok (.ifCond .eq 7, 3) := by decide +kernel
theorem dX7_waiting_23 : decode cX7_waiting 23 = .ok (.iconst 1, 1) := by decide +kernel
theorem dX7_waiting_24 : decode cX7_waiting 24 = .ok (.goto 4, 3) := by decide +kernel
theorem dX7_waiting_27 : decode cX7_waiting 27 = .ok (.iconst 0, 1) := by decide +kernel
theorem dX7_waiting_28 : decode cX7_waiting 28 = .ok (.iadd, 1) := by decide +kernel
theorem dX7_waiting_29 : decode cX7_waiting 29 = .ok (.istore_n 1, 1) := by decide +kernel
theorem dX7_waiting_30 : decode cX7_waiting 30 = .ok (.iinc 2 1, 3) := by decide +kernel
theorem dX7_waiting_33 : decode cX7_waiting 33 = .ok (.goto (-29), 3) := by decide +kernel
theorem dX7_waiting_36 : decode cX7_waiting 36 = .ok (.iload_n 1, 1) := by decide +kernel
theorem dX7_waiting_37 : decode cX7_waiting 37 = .ok (.ireturn, 1) := by decide +kernel
theorem dX7_bestWay_0 : decode cX7_bestWay 0 = .ok (.iconst 0, 1) := by decide +kernel
theorem dX7_bestWay_1 : decode cX7_bestWay 1 = .ok (.istore_n 2, 1) := by decide +kernel
theorem dX7_bestWay_2 : decode cX7_bestWay 2 = .ok (.iconst 0, 1) := by decide +kernel
theorem dX7_bestWay_3 : decode cX7_bestWay 3 = .ok (.istore_n 3, 1) := by decide +kernel
theorem dX7_bestWay_4 : decode cX7_bestWay 4 = .ok (.iload_n 3, 1) := by decide +kernel
theorem dX7_bestWay_5 : decode cX7_bestWay 5 = .ok (.bipush 8, 2) := by decide +kernel
theorem dX7_bestWay_7 : decode cX7_bestWay 7 = .ok (.if_icmp .ge 35, 3) := by decide +kernel
theorem dX7_bestWay_10 : decode cX7_bestWay 10 = .ok (.iload_n 2, 1) := by decide +kernel
theorem dX7_bestWay_11 : decode cX7_bestWay 11 = .ok (.aload_n 0, 1) := by decide +kernel
theorem dX7_bestWay_12 : decode cX7_bestWay 12 = .ok (.iload_n 3, 1) := by decide +kernel
theorem dX7_bestWay_13 : decode cX7_bestWay 13 = .ok (.invokevirtual 103, 3) := by decide +kernel
theorem dX7_bestWay_16 : decode cX7_bestWay 16 = .ok (.ifCond .eq 17, 3) := by decide +kernel
theorem dX7_bestWay_19 : decode cX7_bestWay 19 = .ok (.aload_n 0, 1) := by decide +kernel
theorem dX7_bestWay_20 : decode cX7_bestWay 20 = .ok (.iload_n 3, 1) := by decide +kernel
theorem dX7_bestWay_21 : decode cX7_bestWay 21 = .ok (.invokevirtual 106, 3) := by decide +kernel
theorem dX7_bestWay_24 : decode cX7_bestWay 24 = .ok (.ifCond .ge 9, 3) := by decide +kernel
theorem dX7_bestWay_27 : decode cX7_bestWay 27 = .ok (.iconst 1, 1) := by decide +kernel
theorem dX7_bestWay_28 : decode cX7_bestWay 28 = .ok (.iload_n 3, 1) := by decide +kernel
theorem dX7_bestWay_29 : decode cX7_bestWay 29 = .ok (.ishl, 1) := by decide +kernel
theorem dX7_bestWay_30 : decode cX7_bestWay 30 = .ok (.goto 4, 3) := by decide +kernel
theorem dX7_bestWay_33 : decode cX7_bestWay 33 = .ok (.iconst 0, 1) := by decide +kernel
theorem dX7_bestWay_34 : decode cX7_bestWay 34 = .ok (.ior, 1) := by decide +kernel
theorem dX7_bestWay_35 : decode cX7_bestWay 35 = .ok (.istore_n 2, 1) := by decide +kernel
theorem dX7_bestWay_36 : decode cX7_bestWay 36 = .ok (.iinc 3 1, 3) := by decide +kernel
theorem dX7_bestWay_39 : decode cX7_bestWay 39 = .ok (.goto (-35), 3) := by decide +kernel
theorem dX7_bestWay_42 : decode cX7_bestWay 42 = .ok (.iconst 0, 1) := by decide +kernel
theorem dX7_bestWay_43 : decode cX7_bestWay 43 = .ok (.istore_n 3, 1) := by decide +kernel
theorem dX7_bestWay_44 : decode cX7_bestWay 44 = .ok (.iconst 0, 1) := by decide +kernel
theorem dX7_bestWay_45 : decode cX7_bestWay 45 = .ok (.istore 4, 2) := by decide +kernel
theorem dX7_bestWay_47 : decode cX7_bestWay 47 = .ok (.iload 4, 2) := by decide +kernel
theorem dX7_bestWay_49 : decode cX7_bestWay 49 = .ok (.aload_n 0, 1) := by decide +kernel
theorem dX7_bestWay_50 : decode cX7_bestWay 50 = .ok (.getfield 9, 3) := by decide +kernel
theorem dX7_bestWay_53 : decode cX7_bestWay 53 = .ok (.iconst 3, 1) := by decide +kernel
theorem dX7_bestWay_54 : decode cX7_bestWay 54 = .ok (.iaload, 1) := by decide +kernel
theorem dX7_bestWay_55 : decode cX7_bestWay 55 = .ok (.if_icmp .ge 29, 3) := by decide +kernel
theorem dX7_bestWay_58 : decode cX7_bestWay 58 = .ok (.iload_n 3, 1) := by decide +kernel
theorem dX7_bestWay_59 : decode cX7_bestWay 59 = .ok (.aload_n 0, 1) := by decide +kernel
theorem dX7_bestWay_60 : decode cX7_bestWay 60 = .ok (.iload 4, 2) := by decide +kernel
theorem dX7_bestWay_62 : decode cX7_bestWay 62 = .ok (.invokevirtual 211, 3) := by decide +kernel
theorem dX7_bestWay_65 : decode cX7_bestWay 65 = .ok (.ifCond .eq 10, 3) := by decide +kernel
theorem dX7_bestWay_68 : decode cX7_bestWay 68 = .ok (.iconst 1, 1) := by decide +kernel
theorem dX7_bestWay_69 : decode cX7_bestWay 69 = .ok (.iload 4, 2) := by decide +kernel
theorem dX7_bestWay_71 : decode cX7_bestWay 71 = .ok (.ishl, 1) := by decide +kernel
theorem dX7_bestWay_72 : decode cX7_bestWay 72 = .ok (.goto 4, 3) := by decide +kernel
theorem dX7_bestWay_75 : decode cX7_bestWay 75 = .ok (.iconst 0, 1) := by decide +kernel
theorem dX7_bestWay_76 : decode cX7_bestWay 76 = .ok (.ior, 1) := by decide +kernel
theorem dX7_bestWay_77 : decode cX7_bestWay 77 = .ok (.istore_n 3, 1) := by decide +kernel
theorem dX7_bestWay_78 : decode cX7_bestWay 78 = .ok (.iinc 4 1, 3) := by decide +kernel
theorem dX7_bestWay_81 : decode cX7_bestWay 81 = .ok (.goto (-34), 3) := by decide +kernel
theorem dX7_bestWay_84 : decode cX7_bestWay 84 = .ok (.iconst 0, 1) := by decide +kernel
theorem dX7_bestWay_85 : decode cX7_bestWay 85 = .ok (.istore 4, 2) := by decide +kernel
theorem dX7_bestWay_87 : decode cX7_bestWay 87 = .ok (.iload 4, 2) := by decide +kernel
theorem dX7_bestWay_89 : decode cX7_bestWay 89 = .ok (.bipush 8, 2) := by decide +kernel
theorem dX7_bestWay_91 : decode cX7_bestWay 91 = .ok (.if_icmp .ge 17, 3) := by decide +kernel
theorem dX7_bestWay_94 : decode cX7_bestWay 94 = .ok (.aload_n 0, 1) := by decide +kernel
theorem dX7_bestWay_95 : decode cX7_bestWay 95 = .ok (.getfield 25, 3) := by decide +kernel
theorem dX7_bestWay_98 : decode cX7_bestWay 98 = .ok (.iload 4, 2) := by decide +kernel
theorem dX7_bestWay_100 : decode cX7_bestWay 100 = .ok (.iconst (-1), 1) := by decide +kernel
theorem dX7_bestWay_101 : decode cX7_bestWay 101 = .ok (.iastore, 1) := by decide +kernel
theorem dX7_bestWay_102 : decode cX7_bestWay 102 = .ok (.iinc 4 1, 3) := by decide +kernel
theorem dX7_bestWay_105 : decode cX7_bestWay 105 = .ok (.goto (-18), 3) := by decide +kernel
theorem dX7_bestWay_108 : decode cX7_bestWay 108 = .ok (.aload_n 0, 1) := by decide +kernel
theorem dX7_bestWay_109 : decode cX7_bestWay 109 = .ok (.getfield 9, 3) := by decide +kernel
theorem dX7_bestWay_112 : decode cX7_bestWay 112 = .ok (.aload_n 0, 1) := by decide +kernel
theorem dX7_bestWay_113 : decode cX7_bestWay 113 = .ok (.getfield 19, 3) := by decide +kernel
theorem dX7_bestWay_116 : decode cX7_bestWay 116 = .ok (.invokestatic 185, 3) := by decide +kernel
theorem dX7_bestWay_119 : decode cX7_bestWay 119 = .ok (.iconst (-1), 1) := by decide +kernel
theorem dX7_bestWay_120 : decode cX7_bestWay 120 = .ok (.istore 4, 2) := by decide +kernel
theorem dX7_bestWay_122 : decode cX7_bestWay 122 = .ok (.iconst 1, 1) := by decide +kernel
theorem dX7_bestWay_123 : decode cX7_bestWay 123 = .ok (.istore 5, 2) := by decide +kernel
theorem dX7_bestWay_125 : decode cX7_bestWay 125 = .ok (.iload 5, 2) := by decide +kernel
theorem dX7_bestWay_127 : decode cX7_bestWay 127 = .ok (.ifCond .eq 301, 3) := by decide +kernel
theorem dX7_bestWay_130 : decode cX7_bestWay 130 = .ok (.iconst 0, 1) := by decide +kernel
theorem dX7_bestWay_131 : decode cX7_bestWay 131 = .ok (.istore 6, 2) := by decide +kernel
theorem dX7_bestWay_133 : decode cX7_bestWay 133 = .ok (.iconst 1, 1) := by decide +kernel
theorem dX7_bestWay_134 : decode cX7_bestWay 134 = .ok (.istore 7, 2) := by decide +kernel
theorem dX7_bestWay_136 : decode cX7_bestWay 136 = .ok (.iconst 0, 1) := by decide +kernel
theorem dX7_bestWay_137 : decode cX7_bestWay 137 = .ok (.istore 8, 2) := by decide +kernel
theorem dX7_bestWay_139 : decode cX7_bestWay 139 = .ok (.iload 8, 2) := by decide +kernel
theorem dX7_bestWay_141 : decode cX7_bestWay 141 = .ok (.bipush 8, 2) := by decide +kernel
theorem dX7_bestWay_143 : decode cX7_bestWay 143 = .ok (.if_icmp .ge 78, 3) := by decide +kernel
theorem dX7_bestWay_146 : decode cX7_bestWay 146 = .ok (.aload_n 0, 1) := by decide +kernel
theorem dX7_bestWay_147 : decode cX7_bestWay 147 = .ok (.getfield 25, 3) := by decide +kernel
theorem dX7_bestWay_150 : decode cX7_bestWay 150 = .ok (.iload 8, 2) := by decide +kernel
theorem dX7_bestWay_152 : decode cX7_bestWay 152 = .ok (.iaload, 1) := by decide +kernel
theorem dX7_bestWay_153 : decode cX7_bestWay 153 = .ok (.ifCond .ge 6, 3) := by decide +kernel
theorem dX7_bestWay_156 : decode cX7_bestWay 156 = .ok (.goto 59, 3) := by decide +kernel
theorem dX7_bestWay_159 : decode cX7_bestWay 159 = .ok (.iload 7, 2) := by decide +kernel
theorem dX7_bestWay_161 : decode cX7_bestWay 161 = .ok (.ifCond .eq 37, 3) := by decide +kernel
theorem dX7_bestWay_164 : decode cX7_bestWay 164 = .ok (.iload_n 2, 1) := by decide +kernel
theorem dX7_bestWay_165 : decode cX7_bestWay 165 = .ok (.aload_n 0, 1) := by decide +kernel
theorem dX7_bestWay_166 : decode cX7_bestWay 166 = .ok (.getfield 25, 3) := by decide +kernel
theorem dX7_bestWay_169 : decode cX7_bestWay 169 = .ok (.iload 8, 2) := by decide +kernel
theorem dX7_bestWay_171 : decode cX7_bestWay 171 = .ok (.iaload, 1) := by decide +kernel
theorem dX7_bestWay_172 : decode cX7_bestWay 172 = .ok (.ishr, 1) := by decide +kernel
theorem dX7_bestWay_173 : decode cX7_bestWay 173 = .ok (.iconst 1, 1) := by decide +kernel
theorem dX7_bestWay_174 : decode cX7_bestWay 174 = .ok (.iand, 1) := by decide +kernel
theorem dX7_bestWay_175 : decode cX7_bestWay 175 = .ok (.iconst 1, 1) := by decide +kernel
theorem dX7_bestWay_176 : decode cX7_bestWay 176 = .ok (.if_icmp .ne 22, 3) := by decide +kernel
theorem dX7_bestWay_179 : decode cX7_bestWay 179 = .ok (.iload 6, 2) := by decide +kernel
theorem dX7_bestWay_181 : decode cX7_bestWay 181 = .ok (.aload_n 0, 1) := by decide +kernel
theorem dX7_bestWay_182 : decode cX7_bestWay 182 = .ok (.getfield 25, 3) := by decide +kernel
theorem dX7_bestWay_185 : decode cX7_bestWay 185 = .ok (.iload 8, 2) := by decide +kernel
theorem dX7_bestWay_187 : decode cX7_bestWay 187 = .ok (.iaload, 1) := by decide +kernel
theorem dX7_bestWay_188 : decode cX7_bestWay 188 = .ok (.ishr, 1) := by decide +kernel
theorem dX7_bestWay_189 : decode cX7_bestWay 189 = .ok (.iconst 1, 1) := by decide +kernel
theorem dX7_bestWay_190 : decode cX7_bestWay 190 = .ok (.iand, 1) := by decide +kernel
theorem dX7_bestWay_191 : decode cX7_bestWay 191 = .ok (.ifCond .ne 7, 3) := by decide +kernel
theorem dX7_bestWay_194 : decode cX7_bestWay 194 = .ok (.iconst 1, 1) := by decide +kernel
theorem dX7_bestWay_195 : decode cX7_bestWay 195 = .ok (.goto 4, 3) := by decide +kernel
theorem dX7_bestWay_198 : decode cX7_bestWay 198 = .ok (.iconst 0, 1) := by decide +kernel
theorem dX7_bestWay_199 : decode cX7_bestWay 199 = .ok (.istore 7, 2) := by decide +kernel
theorem dX7_bestWay_201 : decode cX7_bestWay 201 = .ok (.iload 6, 2) := by decide +kernel
theorem dX7_bestWay_203 : decode cX7_bestWay 203 = .ok (.iconst 1, 1) := by decide +kernel
theorem dX7_bestWay_204 : decode cX7_bestWay 204 = .ok (.aload_n 0, 1) := by decide +kernel
theorem dX7_bestWay_205 : decode cX7_bestWay 205 = .ok (.getfield 25, 3) := by decide +kernel
theorem dX7_bestWay_208 : decode cX7_bestWay 208 = .ok (.iload 8, 2) := by decide +kernel
theorem dX7_bestWay_210 : decode cX7_bestWay 210 = .ok (.iaload, 1) := by decide +kernel
theorem dX7_bestWay_211 : decode cX7_bestWay 211 = .ok (.ishl, 1) := by decide +kernel
theorem dX7_bestWay_212 : decode cX7_bestWay 212 = .ok (.ior, 1) := by decide +kernel
theorem dX7_bestWay_213 : decode cX7_bestWay 213 = .ok (.istore 6, 2) := by decide +kernel
theorem dX7_bestWay_215 : decode cX7_bestWay 215 = .ok (.iinc 8 1, 3) := by decide +kernel
theorem dX7_bestWay_218 : decode cX7_bestWay 218 = .ok (.goto (-79), 3) := by decide +kernel
theorem dX7_bestWay_221 : decode cX7_bestWay 221 = .ok (.iload 7, 2) := by decide +kernel
theorem dX7_bestWay_223 : decode cX7_bestWay 223 = .ok (.ifCond .eq 123, 3) := by decide +kernel
theorem dX7_bestWay_226 : decode cX7_bestWay 226 = .ok (.iconst 0, 1) := by decide +kernel
theorem dX7_bestWay_227 : decode cX7_bestWay 227 = .ok (.istore 8, 2) := by decide +kernel
theorem dX7_bestWay_229 : decode cX7_bestWay 229 = .ok (.iload 8, 2) := by decide +kernel
theorem dX7_bestWay_231 : decode cX7_bestWay 231 = .ok (.bipush 8, 2) := by decide +kernel
theorem dX7_bestWay_233 : decode cX7_bestWay 233 = .ok (.if_icmp .ge 38, 3) := by decide +kernel
theorem dX7_bestWay_236 : decode cX7_bestWay 236 = .ok (.aload_n 0, 1) := by decide +kernel
theorem dX7_bestWay_237 : decode cX7_bestWay 237 = .ok (.getfield 25, 3) := by decide +kernel
theorem dX7_bestWay_240 : decode cX7_bestWay 240 = .ok (.iload 8, 2) := by decide +kernel
theorem dX7_bestWay_242 : decode cX7_bestWay 242 = .ok (.iaload, 1) := by decide +kernel
theorem dX7_bestWay_243 : decode cX7_bestWay 243 = .ok (.ifCond .lt 22, 3) := by decide +kernel
theorem dX7_bestWay_246 : decode cX7_bestWay 246 = .ok (.aload_n 0, 1) := by decide +kernel
theorem dX7_bestWay_247 : decode cX7_bestWay 247 = .ok (.getfield 9, 3) := by decide +kernel
theorem dX7_bestWay_250 : decode cX7_bestWay 250 = .ok (.bipush 100, 2) := by decide +kernel
theorem dX7_bestWay_252 : decode cX7_bestWay 252 = .ok (.iconst 4, 1) := by decide +kernel
theorem dX7_bestWay_253 : decode cX7_bestWay 253 = .ok (.iload 8, 2) := by decide +kernel
theorem dX7_bestWay_255 : decode cX7_bestWay 255 = .ok (.imul, 1) := by decide +kernel
theorem dX7_bestWay_256 : decode cX7_bestWay 256 = .ok (.iadd, 1) := by decide +kernel
theorem dX7_bestWay_257 : decode cX7_bestWay 257 = .ok (.aload_n 0, 1) := by decide +kernel
theorem dX7_bestWay_258 : decode cX7_bestWay 258 = .ok (.getfield 25, 3) := by decide +kernel
theorem dX7_bestWay_261 : decode cX7_bestWay 261 = .ok (.iload 8, 2) := by decide +kernel
theorem dX7_bestWay_263 : decode cX7_bestWay 263 = .ok (.iaload, 1) := by decide +kernel
theorem dX7_bestWay_264 : decode cX7_bestWay 264 = .ok (.iastore, 1) := by decide +kernel
theorem dX7_bestWay_265 : decode cX7_bestWay 265 = .ok (.iinc 8 1, 3) := by decide +kernel
theorem dX7_bestWay_268 : decode cX7_bestWay 268 = .ok (.goto (-39), 3) := by decide +kernel
theorem dX7_bestWay_271 : decode cX7_bestWay 271 = .ok (.aload_n 0, 1) := by decide +kernel
theorem dX7_bestWay_272 : decode cX7_bestWay 272 = .ok (.iload_n 1, 1) := by decide +kernel
theorem dX7_bestWay_273 : decode cX7_bestWay 273 = .ok (.invokevirtual 178, 3) := by decide +kernel
theorem dX7_bestWay_276 : decode cX7_bestWay 276 = .ok (.aload_n 0, 1) := by decide +kernel
theorem dX7_bestWay_277 : decode cX7_bestWay 277 = .ok (.invokevirtual 195, 3) := by decide +kernel
theorem dX7_bestWay_280 : decode cX7_bestWay 280 = .ok (.istore 8, 2) := by decide +kernel
theorem dX7_bestWay_282 : decode cX7_bestWay 282 = .ok (.aload_n 0, 1) := by decide +kernel
theorem dX7_bestWay_283 : decode cX7_bestWay 283 = .ok (.getfield 19, 3) := by decide +kernel
theorem dX7_bestWay_286 : decode cX7_bestWay 286 = .ok (.aload_n 0, 1) := by decide +kernel
theorem dX7_bestWay_287 : decode cX7_bestWay 287 = .ok (.getfield 9, 3) := by decide +kernel
theorem dX7_bestWay_290 : decode cX7_bestWay 290 = .ok (.invokestatic 185, 3) := by decide +kernel
theorem dX7_bestWay_293 : decode cX7_bestWay 293 = .ok (.iconst 0, 1) := by decide +kernel
theorem dX7_bestWay_294 : decode cX7_bestWay 294 = .ok (.istore 9, 2) := by decide +kernel
theorem dX7_bestWay_296 : decode cX7_bestWay 296 = .ok (.iload 9, 2) := by decide +kernel
theorem dX7_bestWay_298 : decode cX7_bestWay 298 = .ok (.bipush 8, 2) := by decide +kernel
theorem dX7_bestWay_300 : decode cX7_bestWay 300 = .ok (.if_icmp .ge 30, 3) := by decide +kernel
theorem dX7_bestWay_303 : decode cX7_bestWay 303 = .ok (.iload 8, 2) := by decide +kernel
theorem dX7_bestWay_305 : decode cX7_bestWay 305 = .ok (.iload 4, 2) := by decide +kernel
theorem dX7_bestWay_307 : decode cX7_bestWay 307 = .ok (.if_icmp .le 23, 3) := by decide +kernel
theorem dX7_bestWay_310 : decode cX7_bestWay 310 = .ok (.aload_n 0, 1) := by decide +kernel
theorem dX7_bestWay_311 : decode cX7_bestWay 311 = .ok (.getfield 28, 3) := by decide +kernel
theorem dX7_bestWay_314 : decode cX7_bestWay 314 = .ok (.iload 9, 2) := by decide +kernel
theorem dX7_bestWay_316 : decode cX7_bestWay 316 = .ok (.aload_n 0, 1) := by decide +kernel
theorem dX7_bestWay_317 : decode cX7_bestWay 317 = .ok (.getfield 25, 3) := by decide +kernel
theorem dX7_bestWay_320 : decode cX7_bestWay 320 = .ok (.iload 9, 2) := by decide +kernel
theorem dX7_bestWay_322 : decode cX7_bestWay 322 = .ok (.iaload, 1) := by decide +kernel
theorem dX7_bestWay_323 : decode cX7_bestWay 323 = .ok (.iastore, 1) := by decide +kernel
theorem dX7_bestWay_324 : decode cX7_bestWay 324 = .ok (.iinc 9 1, 3) := by decide +kernel
theorem dX7_bestWay_327 : decode cX7_bestWay 327 = .ok (.goto (-31), 3) := by decide +kernel
theorem dX7_bestWay_330 : decode cX7_bestWay 330 = .ok (.iload 8, 2) := by decide +kernel
theorem dX7_bestWay_332 : decode cX7_bestWay 332 = .ok (.iload 4, 2) := by decide +kernel
theorem dX7_bestWay_334 : decode cX7_bestWay 334 = .ok (.if_icmp .le 8, 3) := by decide +kernel
theorem dX7_bestWay_337 : decode cX7_bestWay 337 = .ok (.iload 8, 2) := by decide +kernel
theorem dX7_bestWay_339 : decode cX7_bestWay 339 = .ok (.goto 5, 3) := by decide +kernel
theorem dX7_bestWay_342 : decode cX7_bestWay 342 = .ok (.iload 4, 2) := by decide +kernel
theorem dX7_bestWay_344 : decode cX7_bestWay 344 = .ok (.istore 4, 2) := by decide +kernel
theorem dX7_bestWay_346 : decode cX7_bestWay 346 = .ok (.iconst 0, 1) := by decide +kernel
theorem dX7_bestWay_347 : decode cX7_bestWay 347 = .ok (.istore 5, 2) := by decide +kernel
theorem dX7_bestWay_349 : decode cX7_bestWay 349 = .ok (.bipush 7, 2) := by decide +kernel
theorem dX7_bestWay_351 : decode cX7_bestWay 351 = .ok (.istore 8, 2) := by decide +kernel
theorem dX7_bestWay_353 : decode cX7_bestWay 353 = .ok (.iload 8, 2) := by decide +kernel
theorem dX7_bestWay_355 : decode cX7_bestWay 355 = .ok (.ifCond .lt 70, 3) := by decide +kernel
theorem dX7_bestWay_358 : decode cX7_bestWay 358 = .ok (.iload 5, 2) := by decide +kernel
theorem dX7_bestWay_360 : decode cX7_bestWay 360 = .ok (.ifCond .ne 65, 3) := by decide +kernel
theorem dX7_bestWay_363 : decode cX7_bestWay 363 = .ok (.iload_n 3, 1) := by decide +kernel
theorem dX7_bestWay_364 : decode cX7_bestWay 364 = .ok (.iload 8, 2) := by decide +kernel
theorem dX7_bestWay_366 : decode cX7_bestWay 366 = .ok (.ishr, 1) := by decide +kernel
theorem dX7_bestWay_367 : decode cX7_bestWay 367 = .ok (.iconst 1, 1) := by decide +kernel
theorem dX7_bestWay_368 : decode cX7_bestWay 368 = .ok (.iand, 1) := by decide +kernel
theorem dX7_bestWay_369 : decode cX7_bestWay 369 = .ok (.ifCond .ne 6, 3) := by decide +kernel
theorem dX7_bestWay_372 : decode cX7_bestWay 372 = .ok (.goto 47, 3) := by decide +kernel
theorem dX7_bestWay_375 : decode cX7_bestWay 375 = .ok (.aload_n 0, 1) := by decide +kernel
theorem dX7_bestWay_376 : decode cX7_bestWay 376 = .ok (.getfield 25, 3) := by decide +kernel
theorem dX7_bestWay_379 : decode cX7_bestWay 379 = .ok (.iload 8, 2) := by decide +kernel
theorem dX7_bestWay_381 : decode cX7_bestWay 381 = .ok (.iaload, 1) := by decide +kernel
theorem dX7_bestWay_382 : decode cX7_bestWay 382 = .ok (.bipush 7, 2) := by decide +kernel
theorem dX7_bestWay_384 : decode cX7_bestWay 384 = .ok (.if_icmp .ge 7, 3) := by decide +kernel
theorem dX7_bestWay_387 : decode cX7_bestWay 387 = .ok (.iconst 1, 1) := by decide +kernel
theorem dX7_bestWay_388 : decode cX7_bestWay 388 = .ok (.goto 4, 3) := by decide +kernel
theorem dX7_bestWay_391 : decode cX7_bestWay 391 = .ok (.iconst 0, 1) := by decide +kernel
theorem dX7_bestWay_392 : decode cX7_bestWay 392 = .ok (.istore 5, 2) := by decide +kernel
theorem dX7_bestWay_394 : decode cX7_bestWay 394 = .ok (.aload_n 0, 1) := by decide +kernel
theorem dX7_bestWay_395 : decode cX7_bestWay 395 = .ok (.getfield 25, 3) := by decide +kernel
theorem dX7_bestWay_398 : decode cX7_bestWay 398 = .ok (.iload 8, 2) := by decide +kernel
theorem dX7_bestWay_400 : decode cX7_bestWay 400 = .ok (.iload 5, 2) := by decide +kernel
theorem dX7_bestWay_402 : decode cX7_bestWay 402 = .ok (.ifCond .eq 15, 3) := by decide +kernel
theorem dX7_bestWay_405 : decode cX7_bestWay 405 = .ok (.aload_n 0, 1) := by decide +kernel
theorem dX7_bestWay_406 : decode cX7_bestWay 406 = .ok (.getfield 25, 3) := by decide +kernel
theorem dX7_bestWay_409 : decode cX7_bestWay 409 = .ok (.iload 8, 2) := by decide +kernel
theorem dX7_bestWay_411 : decode cX7_bestWay 411 = .ok (.iaload, 1) := by decide +kernel
theorem dX7_bestWay_412 : decode cX7_bestWay 412 = .ok (.iconst 1, 1) := by decide +kernel
theorem dX7_bestWay_413 : decode cX7_bestWay 413 = .ok (.iadd, 1) := by decide +kernel
theorem dX7_bestWay_414 : decode cX7_bestWay 414 = .ok (.goto 4, 3) := by decide +kernel
theorem dX7_bestWay_417 : decode cX7_bestWay 417 = .ok (.iconst (-1), 1) := by decide +kernel
theorem dX7_bestWay_418 : decode cX7_bestWay 418 = .ok (.iastore, 1) := by decide +kernel
theorem dX7_bestWay_419 : decode cX7_bestWay 419 = .ok (.iinc 8 (-1), 3) := by decide +kernel
theorem dX7_bestWay_422 : decode cX7_bestWay 422 = .ok (.goto (-69), 3) := by decide +kernel
theorem dX7_bestWay_425 : decode cX7_bestWay 425 = .ok (.goto (-300), 3) := by decide +kernel
theorem dX7_bestWay_428 : decode cX7_bestWay 428 = .ok (.iload 4, 2) := by decide +kernel
theorem dX7_bestWay_430 : decode cX7_bestWay 430 = .ok (.ireturn, 1) := by decide +kernel
end
section
theorem dX7_wrongWay_0 : decode cX7_wrongWay 0 = .ok (.iload_n 1, 1) := by decide +kernel
theorem dX7_wrongWay_1 : decode cX7_wrongWay 1 = .ok (.i2l, 1) := by decide +kernel
theorem dX7_wrongWay_2 : decode cX7_wrongWay 2 = .ok (.lconst 1, 1) := by decide +kernel
theorem dX7_wrongWay_3 : decode cX7_wrongWay 3 = .ok (.ldc2_w 214, 3) := by decide +kernel
theorem dX7_wrongWay_6 : decode cX7_wrongWay 6 = .ok (.invokestatic 51, 3) := by decide +kernel
theorem dX7_wrongWay_9 : decode cX7_wrongWay 9 = .ok (.ifCond .ne 8, 3) := by decide +kernel
theorem dX7_wrongWay_12 : decode cX7_wrongWay 12 = .ok (.ldc 43, 2) := by decide +kernel
theorem dX7_wrongWay_14 : decode cX7_wrongWay 14 = .ok (.goto 30, 3) := by decide +kernel
theorem dX7_wrongWay_17 : decode cX7_wrongWay 17 = .ok (.aload_n 0, 1) := by decide +kernel
theorem dX7_wrongWay_18 : decode cX7_wrongWay 18 = .ok (.iload_n 1, 1) := by decide +kernel
theorem dX7_wrongWay_19 : decode cX7_wrongWay 19 = .ok (.invokevirtual 172, 3) := by decide +kernel
theorem dX7_wrongWay_22 : decode cX7_wrongWay 22 = .ok (.ifCond .eq 8, 3) := by decide +kernel
theorem dX7_wrongWay_25 : decode cX7_wrongWay 25 = .ok (.ldc 130, 2) := by decide +kernel
theorem dX7_wrongWay_27 : decode cX7_wrongWay 27 = .ok (.goto 17, 3) := by decide +kernel
theorem dX7_wrongWay_30 : decode cX7_wrongWay 30 = .ok (.aload_n 0, 1) := by decide +kernel
theorem dX7_wrongWay_31 : decode cX7_wrongWay 31 = .ok (.invokevirtual 216, 3) := by decide +kernel
theorem dX7_wrongWay_34 : decode cX7_wrongWay 34 = .ok (.iconst 4, 1) := by decide +kernel
theorem dX7_wrongWay_35 : decode cX7_wrongWay 35 = .ok (.if_icmp .le 8, 3) := by decide +kernel
theorem dX7_wrongWay_38 : decode cX7_wrongWay 38 = .ok (.ldc 219, 2) := by decide +kernel
theorem dX7_wrongWay_40 : decode cX7_wrongWay 40 = .ok (.goto 4, 3) := by decide +kernel
theorem dX7_wrongWay_43 : decode cX7_wrongWay 43 = .ok (.iconst 0, 1) := by decide +kernel
theorem dX7_wrongWay_44 : decode cX7_wrongWay 44 = .ok (.ireturn, 1) := by decide +kernel
theorem dX7_most_0 : decode cX7_most 0 = .ok (.aload_n 0, 1) := by decide +kernel
theorem dX7_most_1 : decode cX7_most 1 = .ok (.iload_n 1, 1) := by decide +kernel
theorem dX7_most_2 : decode cX7_most 2 = .ok (.invokevirtual 220, 3) := by decide +kernel
theorem dX7_most_5 : decode cX7_most 5 = .ok (.istore_n 2, 1) := by decide +kernel
theorem dX7_most_6 : decode cX7_most 6 = .ok (.iload_n 2, 1) := by decide +kernel
theorem dX7_most_7 : decode cX7_most 7 = .ok (.ifCond .ge 11, 3) := by decide +kernel
theorem dX7_most_10 : decode cX7_most 10 = .ok (.aload_n 0, 1) := by decide +kernel
theorem dX7_most_11 : decode cX7_most 11 = .ok (.iload_n 2, 1) := by decide +kernel
theorem dX7_most_12 : decode cX7_most 12 = .ok (.invokevirtual 45, 3) := by decide +kernel
theorem dX7_most_15 : decode cX7_most 15 = .ok (.goto 8, 3) := by decide +kernel
theorem dX7_most_18 : decode cX7_most 18 = .ok (.aload_n 0, 1) := by decide +kernel
theorem dX7_most_19 : decode cX7_most 19 = .ok (.iload_n 1, 1) := by decide +kernel
theorem dX7_most_20 : decode cX7_most 20 = .ok (.invokevirtual 223, 3) := by decide +kernel
theorem dX7_most_23 : decode cX7_most 23 = .ok (.ireturn, 1) := by decide +kernel
theorem dX7_give_0 : decode cX7_give 0 = .ok (.aload_n 0, 1) := by decide +kernel
theorem dX7_give_1 : decode cX7_give 1 = .ok (.iload_n 1, 1) := by decide +kernel
theorem dX7_give_2 : decode cX7_give 2 = .ok (.invokevirtual 220, 3) := by decide +kernel
theorem dX7_give_5 : decode cX7_give 5 = .ok (.istore_n 2, 1) := by decide +kernel
theorem dX7_give_6 : decode cX7_give 6 = .ok (.iload_n 2, 1) := by decide +kernel
theorem dX7_give_7 : decode cX7_give 7 = .ok (.ifCond .ge 9, 3) := by decide +kernel
theorem dX7_give_10 : decode cX7_give 10 = .ok (.aload_n 0, 1) := by decide +kernel
theorem dX7_give_11 : decode cX7_give 11 = .ok (.iload_n 2, 1) := by decide +kernel
theorem dX7_give_12 : decode cX7_give 12 = .ok (.invokevirtual 45, 3) := by decide +kernel
theorem dX7_give_15 : decode cX7_give 15 = .ok (.ireturn, 1) := by decide +kernel
theorem dX7_give_16 : decode cX7_give 16 = .ok (.aload_n 0, 1) := by decide +kernel
theorem dX7_give_17 : decode cX7_give 17 = .ok (.iload_n 1, 1) := by decide +kernel
theorem dX7_give_18 : decode cX7_give 18 = .ok (.invokevirtual 223, 3) := by decide +kernel
theorem dX7_give_21 : decode cX7_give 21 = .ok (.pop, 1) := by decide +kernel
theorem dX7_give_22 : decode cX7_give 22 = .ok (.iconst 0, 1) := by decide +kernel
theorem dX7_give_23 : decode cX7_give 23 = .ok (.istore_n 3, 1) := by decide +kernel
theorem dX7_give_24 : decode cX7_give 24 = .ok (.iconst 0, 1) := by decide +kernel
theorem dX7_give_25 : decode cX7_give 25 = .ok (.istore 4, 2) := by decide +kernel
theorem dX7_give_27 : decode cX7_give 27 = .ok (.iload 4, 2) := by decide +kernel
theorem dX7_give_29 : decode cX7_give 29 = .ok (.bipush 8, 2) := by decide +kernel
theorem dX7_give_31 : decode cX7_give 31 = .ok (.if_icmp .ge 44, 3) := by decide +kernel
theorem dX7_give_34 : decode cX7_give 34 = .ok (.aload_n 0, 1) := by decide +kernel
theorem dX7_give_35 : decode cX7_give 35 = .ok (.getfield 28, 3) := by decide +kernel
theorem dX7_give_38 : decode cX7_give 38 = .ok (.iload 4, 2) := by decide +kernel
theorem dX7_give_40 : decode cX7_give 40 = .ok (.iaload, 1) := by decide +kernel
theorem dX7_give_41 : decode cX7_give 41 = .ok (.ifCond .ge 6, 3) := by decide +kernel
theorem dX7_give_44 : decode cX7_give 44 = .ok (.goto 25, 3) := by decide +kernel
theorem dX7_give_47 : decode cX7_give 47 = .ok (.aload_n 0, 1) := by decide +kernel
theorem dX7_give_48 : decode cX7_give 48 = .ok (.getfield 9, 3) := by decide +kernel
theorem dX7_give_51 : decode cX7_give 51 = .ok (.bipush 100, 2) := by decide +kernel
theorem dX7_give_53 : decode cX7_give 53 = .ok (.iconst 4, 1) := by decide +kernel
theorem dX7_give_54 : decode cX7_give 54 = .ok (.iload 4, 2) := by decide +kernel
theorem dX7_give_56 : decode cX7_give 56 = .ok (.imul, 1) := by decide +kernel
theorem dX7_give_57 : decode cX7_give 57 = .ok (.iadd, 1) := by decide +kernel
theorem dX7_give_58 : decode cX7_give 58 = .ok (.aload_n 0, 1) := by decide +kernel
theorem dX7_give_59 : decode cX7_give 59 = .ok (.getfield 28, 3) := by decide +kernel
theorem dX7_give_62 : decode cX7_give 62 = .ok (.iload 4, 2) := by decide +kernel
theorem dX7_give_64 : decode cX7_give 64 = .ok (.iaload, 1) := by decide +kernel
theorem dX7_give_65 : decode cX7_give 65 = .ok (.iastore, 1) := by decide +kernel
theorem dX7_give_66 : decode cX7_give 66 = .ok (.iinc 3 1, 3) := by decide +kernel
theorem dX7_give_69 : decode cX7_give 69 = .ok (.iinc 4 1, 3) := by decide +kernel
theorem dX7_give_72 : decode cX7_give 72 = .ok (.goto (-45), 3) := by decide +kernel
theorem dX7_give_75 : decode cX7_give 75 = .ok (.iload_n 3, 1) := by decide +kernel
theorem dX7_give_76 : decode cX7_give 76 = .ok (.ireturn, 1) := by decide +kernel
theorem dX7_lives_0 : decode cX7_lives 0 = .ok (.iload_n 1, 1) := by decide +kernel
theorem dX7_lives_1 : decode cX7_lives 1 = .ok (.invokestatic 66, 3) := by decide +kernel
theorem dX7_lives_4 : decode cX7_lives 4 = .ok (.ifCond .eq 10, 3) := by decide +kernel
theorem dX7_lives_7 : decode cX7_lives 7 = .ok (.iload_n 2, 1) := by decide +kernel
theorem dX7_lives_8 : decode cX7_lives 8 = .ok (.invokestatic 116, 3) := by decide +kernel
theorem dX7_lives_11 : decode cX7_lives 11 = .ok (.ifCond .ne 10, 3) := by decide +kernel
theorem dX7_lives_14 : decode cX7_lives 14 = .ok (.aload_n 0, 1) := by decide +kernel
theorem dX7_lives_15 : decode cX7_lives 15 = .ok (.ldc 43, 2) := by decide +kernel
theorem dX7_lives_17 : decode cX7_lives 17 = .ok (.invokevirtual 45, 3) := by decide +kernel
theorem dX7_lives_20 : decode cX7_lives 20 = .ok (.ireturn, 1) := by decide +kernel
theorem dX7_lives_21 : decode cX7_lives 21 = .ok (.aload_n 0, 1) := by decide +kernel
theorem dX7_lives_22 : decode cX7_lives 22 = .ok (.iload_n 1, 1) := by decide +kernel
theorem dX7_lives_23 : decode cX7_lives 23 = .ok (.invokevirtual 103, 3) := by decide +kernel
theorem dX7_lives_26 : decode cX7_lives 26 = .ok (.ifCond .ne 10, 3) := by decide +kernel
theorem dX7_lives_29 : decode cX7_lives 29 = .ok (.aload_n 0, 1) := by decide +kernel
theorem dX7_lives_30 : decode cX7_lives 30 = .ok (.ldc 130, 2) := by decide +kernel
theorem dX7_lives_32 : decode cX7_lives 32 = .ok (.invokevirtual 45, 3) := by decide +kernel
theorem dX7_lives_35 : decode cX7_lives 35 = .ok (.ireturn, 1) := by decide +kernel
theorem dX7_lives_36 : decode cX7_lives 36 = .ok (.aload_n 0, 1) := by decide +kernel
theorem dX7_lives_37 : decode cX7_lives 37 = .ok (.getfield 9, 3) := by decide +kernel
theorem dX7_lives_40 : decode cX7_lives 40 = .ok (.aload_n 0, 1) := by decide +kernel
theorem dX7_lives_41 : decode cX7_lives 41 = .ok (.getfield 16, 3) := by decide +kernel
theorem dX7_lives_44 : decode cX7_lives 44 = .ok (.invokestatic 185, 3) := by decide +kernel
theorem dX7_lives_47 : decode cX7_lives 47 = .ok (.aload_n 0, 1) := by decide +kernel
theorem dX7_lives_48 : decode cX7_lives 48 = .ok (.getfield 9, 3) := by decide +kernel
theorem dX7_lives_51 : decode cX7_lives 51 = .ok (.iconst 3, 1) := by decide +kernel
theorem dX7_lives_52 : decode cX7_lives 52 = .ok (.iconst 0, 1) := by decide +kernel
theorem dX7_lives_53 : decode cX7_lives 53 = .ok (.iastore, 1) := by decide +kernel
theorem dX7_lives_54 : decode cX7_lives 54 = .ok (.iconst 0, 1) := by decide +kernel
theorem dX7_lives_55 : decode cX7_lives 55 = .ok (.istore_n 3, 1) := by decide +kernel
theorem dX7_lives_56 : decode cX7_lives 56 = .ok (.iload_n 3, 1) := by decide +kernel
theorem dX7_lives_57 : decode cX7_lives 57 = .ok (.bipush 9, 2) := by decide +kernel
theorem dX7_lives_59 : decode cX7_lives 59 = .ok (.if_icmp .ge 59, 3) := by decide +kernel
theorem dX7_lives_62 : decode cX7_lives 62 = .ok (.aload_n 0, 1) := by decide +kernel
theorem dX7_lives_63 : decode cX7_lives 63 = .ok (.iload_n 1, 1) := by decide +kernel
theorem dX7_lives_64 : decode cX7_lives 64 = .ok (.invokevirtual 103, 3) := by decide +kernel
theorem dX7_lives_67 : decode cX7_lives 67 = .ok (.ifCond .eq 51, 3) := by decide +kernel
theorem dX7_lives_70 : decode cX7_lives 70 = .ok (.iinc 3 1, 3) := by decide +kernel
theorem dX7_lives_73 : decode cX7_lives 73 = .ok (.aload_n 0, 1) := by decide +kernel
theorem dX7_lives_74 : decode cX7_lives 74 = .ok (.getfield 9, 3) := by decide +kernel
theorem dX7_lives_77 : decode cX7_lives 77 = .ok (.iconst 3, 1) := by decide +kernel
theorem dX7_lives_78 : decode cX7_lives 78 = .ok (.iconst 0, 1) := by decide +kernel
theorem dX7_lives_79 : decode cX7_lives 79 = .ok (.iastore, 1) := by decide +kernel
theorem dX7_lives_80 : decode cX7_lives 80 = .ok (.aload_n 0, 1) := by decide +kernel
theorem dX7_lives_81 : decode cX7_lives 81 = .ok (.iload_n 2, 1) := by decide +kernel
theorem dX7_lives_82 : decode cX7_lives 82 = .ok (.iconst 0, 1) := by decide +kernel
theorem dX7_lives_83 : decode cX7_lives 83 = .ok (.iload_n 1, 1) := by decide +kernel
theorem dX7_lives_84 : decode cX7_lives 84 = .ok (.invokevirtual 119, 3) := by decide +kernel
theorem dX7_lives_87 : decode cX7_lives 87 = .ok (.iconst 0, 1) := by decide +kernel
theorem dX7_lives_88 : decode cX7_lives 88 = .ok (.istore 4, 2) := by decide +kernel
theorem dX7_lives_90 : decode cX7_lives 90 = .ok (.iload 4, 2) := by decide +kernel
theorem dX7_lives_92 : decode cX7_lives 92 = .ok (.bipush 40, 2) := by decide +kernel
theorem dX7_lives_94 : decode cX7_lives 94 = .ok (.if_icmp .ge 21, 3) := by decide +kernel
theorem dX7_lives_97 : decode cX7_lives 97 = .ok (.aload_n 0, 1) := by decide +kernel
theorem dX7_lives_98 : decode cX7_lives 98 = .ok (.iload_n 1, 1) := by decide +kernel
theorem dX7_lives_99 : decode cX7_lives 99 = .ok (.invokevirtual 103, 3) := by decide +kernel
theorem dX7_lives_102 : decode cX7_lives 102 = .ok (.ifCond .eq 13, 3) := by decide +kernel
theorem dX7_lives_105 : decode cX7_lives 105 = .ok (.aload_n 0, 1) := by decide +kernel
theorem dX7_lives_106 : decode cX7_lives 106 = .ok (.invokevirtual 167, 3) := by decide +kernel
theorem dX7_lives_109 : decode cX7_lives 109 = .ok (.iinc 4 1, 3) := by decide +kernel
theorem dX7_lives_112 : decode cX7_lives 112 = .ok (.goto (-22), 3) := by decide +kernel
theorem dX7_lives_115 : decode cX7_lives 115 = .ok (.goto (-59), 3) := by decide +kernel
theorem dX7_lives_118 : decode cX7_lives 118 = .ok (.aload_n 0, 1) := by decide +kernel
theorem dX7_lives_119 : decode cX7_lives 119 = .ok (.iload_n 1, 1) := by decide +kernel
theorem dX7_lives_120 : decode cX7_lives 120 = .ok (.invokevirtual 103, 3) := by decide +kernel
theorem dX7_lives_123 : decode cX7_lives 123 = .ok (.ifCond .ne 7, 3) := by decide +kernel
theorem dX7_lives_126 : decode cX7_lives 126 = .ok (.iconst 1, 1) := by decide +kernel
theorem dX7_lives_127 : decode cX7_lives 127 = .ok (.goto 4, 3) := by decide +kernel
theorem dX7_lives_130 : decode cX7_lives 130 = .ok (.iconst 0, 1) := by decide +kernel
theorem dX7_lives_131 : decode cX7_lives 131 = .ok (.istore 4, 2) := by decide +kernel
theorem dX7_lives_133 : decode cX7_lives 133 = .ok (.aload_n 0, 1) := by decide +kernel
theorem dX7_lives_134 : decode cX7_lives 134 = .ok (.getfield 16, 3) := by decide +kernel
theorem dX7_lives_137 : decode cX7_lives 137 = .ok (.aload_n 0, 1) := by decide +kernel
theorem dX7_lives_138 : decode cX7_lives 138 = .ok (.getfield 9, 3) := by decide +kernel
theorem dX7_lives_141 : decode cX7_lives 141 = .ok (.invokestatic 185, 3) := by decide +kernel
theorem dX7_lives_144 : decode cX7_lives 144 = .ok (.iload 4, 2) := by decide +kernel
theorem dX7_lives_146 : decode cX7_lives 146 = .ok (.ifCond .eq 7, 3) := by decide +kernel
theorem dX7_lives_149 : decode cX7_lives 149 = .ok (.iload_n 3, 1) := by decide +kernel
theorem dX7_lives_150 : decode cX7_lives 150 = .ok (.goto 9, 3) := by decide +kernel
theorem dX7_lives_153 : decode cX7_lives 153 = .ok (.aload_n 0, 1) := by decide +kernel
theorem dX7_lives_154 : decode cX7_lives 154 = .ok (.ldc 44, 2) := by decide +kernel
theorem dX7_lives_156 : decode cX7_lives 156 = .ok (.invokevirtual 45, 3) := by decide +kernel
theorem dX7_lives_159 : decode cX7_lives 159 = .ok (.ireturn, 1) := by decide +kernel
theorem dX7_hoursBehind_0 : decode cX7_hoursBehind 0 = .ok (.aload_n 0, 1) := by decide +kernel
theorem dX7_hoursBehind_1 : decode cX7_hoursBehind 1 = .ok (.getfield 9, 3) := by decide +kernel
theorem dX7_hoursBehind_4 : decode cX7_hoursBehind 4 = .ok (.aload_n 0, 1) := by decide +kernel
theorem dX7_hoursBehind_5 : decode cX7_hoursBehind 5 = .ok (.getfield 16, 3) := by decide +kernel
theorem dX7_hoursBehind_8 : decode cX7_hoursBehind 8 = .ok (.invokestatic 185, 3) := by decide +kernel
theorem dX7_hoursBehind_11 : decode cX7_hoursBehind 11 = .ok (.aload_n 0, 1) := by decide +kernel
theorem dX7_hoursBehind_12 : decode cX7_hoursBehind 12 = .ok (.iload_n 1, 1) := by decide +kernel
theorem dX7_hoursBehind_13 : decode cX7_hoursBehind 13 = .ok (.invokevirtual 178, 3) := by decide +kernel
theorem dX7_hoursBehind_16 : decode cX7_hoursBehind 16 = .ok (.aload_n 0, 1) := by decide +kernel
theorem dX7_hoursBehind_17 : decode cX7_hoursBehind 17 = .ok (.invokevirtual 189, 3) := by decide +kernel
theorem dX7_hoursBehind_20 : decode cX7_hoursBehind 20 = .ok (.istore_n 2, 1) := by decide +kernel
theorem dX7_hoursBehind_21 : decode cX7_hoursBehind 21 = .ok (.aload_n 0, 1) := by decide +kernel
theorem dX7_hoursBehind_22 : decode cX7_hoursBehind 22 = .ok (.getfield 16, 3) := by decide +kernel
theorem dX7_hoursBehind_25 : decode cX7_hoursBehind 25 = .ok (.aload_n 0, 1) := by decide +kernel
theorem dX7_hoursBehind_26 : decode cX7_hoursBehind 26 = .ok (.getfield 9, 3) := by decide +kernel
theorem dX7_hoursBehind_29 : decode cX7_hoursBehind 29 = .ok (.invokestatic 185, 3) := by decide +kernel
theorem dX7_hoursBehind_32 : decode cX7_hoursBehind 32 = .ok (.iload_n 2, 1) := by decide +kernel
theorem dX7_hoursBehind_33 : decode cX7_hoursBehind 33 = .ok (.ireturn, 1) := by decide +kernel
theorem dX7_best_0 : decode cX7_best 0 = .ok (.iload_n 1, 1) := by decide +kernel
theorem dX7_best_1 : decode cX7_best 1 = .ok (.i2l, 1) := by decide +kernel
theorem dX7_best_2 : decode cX7_best 2 = .ok (.lconst 1, 1) := by decide +kernel
theorem dX7_best_3 : decode cX7_best 3 = .ok (.ldc2_w 170, 3) := by decide +kernel
theorem dX7_best_6 : decode cX7_best 6 = .ok (.invokestatic 51, 3) := by decide +kernel
theorem dX7_best_9 : decode cX7_best 9 = .ok (.ifCond .ne 10, 3) := by decide +kernel
theorem dX7_best_12 : decode cX7_best 12 = .ok (.aload_n 0, 1) := by decide +kernel
theorem dX7_best_13 : decode cX7_best 13 = .ok (.ldc 43, 2) := by decide +kernel
theorem dX7_best_15 : decode cX7_best 15 = .ok (.invokevirtual 45, 3) := by decide +kernel
theorem dX7_best_18 : decode cX7_best 18 = .ok (.ireturn, 1) := by decide +kernel
theorem dX7_best_19 : decode cX7_best 19 = .ok (.aload_n 0, 1) := by decide +kernel
theorem dX7_best_20 : decode cX7_best 20 = .ok (.iload_n 1, 1) := by decide +kernel
theorem dX7_best_21 : decode cX7_best 21 = .ok (.invokevirtual 172, 3) := by decide +kernel
theorem dX7_best_24 : decode cX7_best 24 = .ok (.ifCond .eq 10, 3) := by decide +kernel
theorem dX7_best_27 : decode cX7_best 27 = .ok (.aload_n 0, 1) := by decide +kernel
theorem dX7_best_28 : decode cX7_best 28 = .ok (.ldc 130, 2) := by decide +kernel
theorem dX7_best_30 : decode cX7_best 30 = .ok (.invokevirtual 45, 3) := by decide +kernel
theorem dX7_best_33 : decode cX7_best 33 = .ok (.ireturn, 1) := by decide +kernel
theorem dX7_best_34 : decode cX7_best 34 = .ok (.iconst (-1), 1) := by decide +kernel
theorem dX7_best_35 : decode cX7_best 35 = .ok (.istore_n 2, 1) := by decide +kernel
theorem dX7_best_36 : decode cX7_best 36 = .ok (.iconst 0, 1) := by decide +kernel
theorem dX7_best_37 : decode cX7_best 37 = .ok (.istore_n 3, 1) := by decide +kernel
theorem dX7_best_38 : decode cX7_best 38 = .ok (.iconst 0, 1) := by decide +kernel
theorem dX7_best_39 : decode cX7_best 39 = .ok (.istore 4, 2) := by decide +kernel
theorem dX7_best_41 : decode cX7_best 41 = .ok (.iload 4, 2) := by decide +kernel
theorem dX7_best_43 : decode cX7_best 43 = .ok (.aload_n 0, 1) := by decide +kernel
theorem dX7_best_44 : decode cX7_best 44 = .ok (.getfield 9, 3) := by decide +kernel
theorem dX7_best_47 : decode cX7_best 47 = .ok (.iconst 2, 1) := by decide +kernel
theorem dX7_best_48 : decode cX7_best 48 = .ok (.iaload, 1) := by decide +kernel
theorem dX7_best_49 : decode cX7_best 49 = .ok (.if_icmp .ge 79, 3) := by decide +kernel
theorem dX7_best_52 : decode cX7_best 52 = .ok (.aload_n 0, 1) := by decide +kernel
theorem dX7_best_53 : decode cX7_best 53 = .ok (.iload 4, 2) := by decide +kernel
theorem dX7_best_55 : decode cX7_best 55 = .ok (.invokevirtual 85, 3) := by decide +kernel
theorem dX7_best_58 : decode cX7_best 58 = .ok (.ifCond .eq 6, 3) := by decide +kernel
theorem dX7_best_61 : decode cX7_best 61 = .ok (.goto 61, 3) := by decide +kernel
theorem dX7_best_64 : decode cX7_best 64 = .ok (.aload_n 0, 1) := by decide +kernel
theorem dX7_best_65 : decode cX7_best 65 = .ok (.bipush 20, 2) := by decide +kernel
theorem dX7_best_67 : decode cX7_best 67 = .ok (.iconst 4, 1) := by decide +kernel
theorem dX7_best_68 : decode cX7_best 68 = .ok (.iload 4, 2) := by decide +kernel
theorem dX7_best_70 : decode cX7_best 70 = .ok (.imul, 1) := by decide +kernel
theorem dX7_best_71 : decode cX7_best 71 = .ok (.iadd, 1) := by decide +kernel
theorem dX7_best_72 : decode cX7_best 72 = .ok (.iconst 2, 1) := by decide +kernel
theorem dX7_best_73 : decode cX7_best 73 = .ok (.iadd, 1) := by decide +kernel
theorem dX7_best_74 : decode cX7_best 74 = .ok (.iconst 0, 1) := by decide +kernel
theorem dX7_best_75 : decode cX7_best 75 = .ok (.invokevirtual 72, 3) := by decide +kernel
theorem dX7_best_78 : decode cX7_best 78 = .ok (.istore 5, 2) := by decide +kernel
theorem dX7_best_80 : decode cX7_best 80 = .ok (.aload_n 0, 1) := by decide +kernel
theorem dX7_best_81 : decode cX7_best 81 = .ok (.iload_n 1, 1) := by decide +kernel
theorem dX7_best_82 : decode cX7_best 82 = .ok (.invokevirtual 226, 3) := by decide +kernel
theorem dX7_best_85 : decode cX7_best 85 = .ok (.istore 6, 2) := by decide +kernel
theorem dX7_best_87 : decode cX7_best 87 = .ok (.aload_n 0, 1) := by decide +kernel
theorem dX7_best_88 : decode cX7_best 88 = .ok (.getfield 9, 3) := by decide +kernel
theorem dX7_best_91 : decode cX7_best 91 = .ok (.bipush 20, 2) := by decide +kernel
theorem dX7_best_93 : decode cX7_best 93 = .ok (.iconst 4, 1) := by decide +kernel
theorem dX7_best_94 : decode cX7_best 94 = .ok (.iload 4, 2) := by decide +kernel
theorem dX7_best_96 : decode cX7_best 96 = .ok (.imul, 1) := by decide +kernel
theorem dX7_best_97 : decode cX7_best 97 = .ok (.iadd, 1) := by decide +kernel
theorem dX7_best_98 : decode cX7_best 98 = .ok (.iconst 2, 1) := by decide +kernel
theorem dX7_best_99 : decode cX7_best 99 = .ok (.iadd, 1) := by decide +kernel
theorem dX7_best_100 : decode cX7_best 100 = .ok (.iload 5, 2) := by decide +kernel
theorem dX7_best_102 : decode cX7_best 102 = .ok (.iastore, 1) := by decide +kernel
theorem dX7_best_103 : decode cX7_best 103 = .ok (.iload_n 2, 1) := by decide +kernel
theorem dX7_best_104 : decode cX7_best 104 = .ok (.ifCond .lt 12, 3) := by decide +kernel
theorem dX7_best_107 : decode cX7_best 107 = .ok (.iload 6, 2) := by decide +kernel
theorem dX7_best_109 : decode cX7_best 109 = .ok (.iload_n 3, 1) := by decide +kernel
theorem dX7_best_110 : decode cX7_best 110 = .ok (.if_icmp .lt 6, 3) := by decide +kernel
theorem dX7_best_113 : decode cX7_best 113 = .ok (.goto 9, 3) := by decide +kernel
theorem dX7_best_116 : decode cX7_best 116 = .ok (.iload 4, 2) := by decide +kernel
theorem dX7_best_118 : decode cX7_best 118 = .ok (.istore_n 2, 1) := by decide +kernel
theorem dX7_best_119 : decode cX7_best 119 = .ok (.iload 6, 2) := by decide +kernel
theorem dX7_best_121 : decode cX7_best 121 = .ok (.istore_n 3, 1) := by decide +kernel
theorem dX7_best_122 : decode cX7_best 122 = .ok (.iinc 4 1, 3) := by decide +kernel
theorem dX7_best_125 : decode cX7_best 125 = .ok (.goto (-84), 3) := by decide +kernel
theorem dX7_best_128 : decode cX7_best 128 = .ok (.aload_n 0, 1) := by decide +kernel
theorem dX7_best_129 : decode cX7_best 129 = .ok (.iload_n 2, 1) := by decide +kernel
theorem dX7_best_130 : decode cX7_best 130 = .ok (.invokevirtual 208, 3) := by decide +kernel
theorem dX7_best_133 : decode cX7_best 133 = .ok (.ireturn, 1) := by decide +kernel
theorem dX7_whom_0 : decode cX7_whom 0 = .ok (.aload_n 0, 1) := by decide +kernel
theorem dX7_whom_1 : decode cX7_whom 1 = .ok (.iload_n 1, 1) := by decide +kernel
theorem dX7_whom_2 : decode cX7_whom 2 = .ok (.invokevirtual 123, 3) := by decide +kernel
theorem dX7_whom_5 : decode cX7_whom 5 = .ok (.ifCond .eq 15, 3) := by decide +kernel
theorem dX7_whom_8 : decode cX7_whom 8 = .ok (.iload_n 2, 1) := by decide +kernel
theorem dX7_whom_9 : decode cX7_whom 9 = .ok (.i2l, 1) := by decide +kernel
theorem dX7_whom_10 : decode cX7_whom 10 = .ok (.lconst 1, 1) := by decide +kernel
theorem dX7_whom_11 : decode cX7_whom 11 = .ok (.ldc2_w 170, 3) := by decide +kernel
theorem dX7_whom_14 : decode cX7_whom 14 = .ok (.invokestatic 51, 3) := by decide +kernel
theorem dX7_whom_17 : decode cX7_whom 17 = .ok (.ifCond .ne 10, 3) := by decide +kernel
theorem dX7_whom_20 : decode cX7_whom 20 = .ok (.aload_n 0, 1) := by decide +kernel
theorem dX7_whom_21 : decode cX7_whom 21 = .ok (.ldc 43, 2) := by decide +kernel
theorem dX7_whom_23 : decode cX7_whom 23 = .ok (.invokevirtual 45, 3) := by decide +kernel
theorem dX7_whom_26 : decode cX7_whom 26 = .ok (.ireturn, 1) := by decide +kernel
theorem dX7_whom_27 : decode cX7_whom 27 = .ok (.aload_n 0, 1) := by decide +kernel
theorem dX7_whom_28 : decode cX7_whom 28 = .ok (.iload_n 2, 1) := by decide +kernel
theorem dX7_whom_29 : decode cX7_whom 29 = .ok (.invokevirtual 172, 3) := by decide +kernel
theorem dX7_whom_32 : decode cX7_whom 32 = .ok (.ifCond .eq 10, 3) := by decide +kernel
theorem dX7_whom_35 : decode cX7_whom 35 = .ok (.aload_n 0, 1) := by decide +kernel
theorem dX7_whom_36 : decode cX7_whom 36 = .ok (.ldc 130, 2) := by decide +kernel
theorem dX7_whom_38 : decode cX7_whom 38 = .ok (.invokevirtual 45, 3) := by decide +kernel
theorem dX7_whom_41 : decode cX7_whom 41 = .ok (.ireturn, 1) := by decide +kernel
theorem dX7_whom_42 : decode cX7_whom 42 = .ok (.bipush 100, 2) := by decide +kernel
theorem dX7_whom_44 : decode cX7_whom 44 = .ok (.iconst 4, 1) := by decide +kernel
theorem dX7_whom_45 : decode cX7_whom 45 = .ok (.iload_n 1, 1) := by decide +kernel
theorem dX7_whom_46 : decode cX7_whom 46 = .ok (.imul, 1) := by decide +kernel
theorem dX7_whom_47 : decode cX7_whom 47 = .ok (.iadd, 1) := by decide +kernel
theorem dX7_whom_48 : decode cX7_whom 48 = .ok (.iconst 3, 1) := by decide +kernel
theorem dX7_whom_49 : decode cX7_whom 49 = .ok (.iadd, 1) := by decide +kernel
theorem dX7_whom_50 : decode cX7_whom 50 = .ok (.istore_n 3, 1) := by decide +kernel
theorem dX7_whom_51 : decode cX7_whom 51 = .ok (.aload_n 0, 1) := by decide +kernel
theorem dX7_whom_52 : decode cX7_whom 52 = .ok (.iload_n 3, 1) := by decide +kernel
theorem dX7_whom_53 : decode cX7_whom 53 = .ok (.iconst (-1), 1) := by decide +kernel
theorem dX7_whom_54 : decode cX7_whom 54 = .ok (.invokevirtual 72, 3) := by decide +kernel
theorem dX7_whom_57 : decode cX7_whom 57 = .ok (.istore 4, 2) := by decide +kernel
theorem dX7_whom_59 : decode cX7_whom 59 = .ok (.iconst (-1), 1) := by decide +kernel
theorem dX7_whom_60 : decode cX7_whom 60 = .ok (.istore 5, 2) := by decide +kernel
theorem dX7_whom_62 : decode cX7_whom 62 = .ok (.aload_n 0, 1) := by decide +kernel
theorem dX7_whom_63 : decode cX7_whom 63 = .ok (.iload_n 2, 1) := by decide +kernel
theorem dX7_whom_64 : decode cX7_whom 64 = .ok (.invokevirtual 226, 3) := by decide +kernel
theorem dX7_whom_67 : decode cX7_whom 67 = .ok (.istore 6, 2) := by decide +kernel
theorem dX7_whom_69 : decode cX7_whom 69 = .ok (.iconst 0, 1) := by decide +kernel
theorem dX7_whom_70 : decode cX7_whom 70 = .ok (.istore 7, 2) := by decide +kernel
theorem dX7_whom_72 : decode cX7_whom 72 = .ok (.iload 7, 2) := by decide +kernel
theorem dX7_whom_74 : decode cX7_whom 74 = .ok (.aload_n 0, 1) := by decide +kernel
theorem dX7_whom_75 : decode cX7_whom 75 = .ok (.getfield 9, 3) := by decide +kernel
theorem dX7_whom_78 : decode cX7_whom 78 = .ok (.iconst 3, 1) := by decide +kernel
theorem dX7_whom_79 : decode cX7_whom 79 = .ok (.iaload, 1) := by decide +kernel
theorem dX7_whom_80 : decode cX7_whom 80 = .ok (.if_icmp .ge 51, 3) := by decide +kernel
theorem dX7_whom_83 : decode cX7_whom 83 = .ok (.iload 7, 2) := by decide +kernel
theorem dX7_whom_85 : decode cX7_whom 85 = .ok (.iload_n 1, 1) := by decide +kernel
theorem dX7_whom_86 : decode cX7_whom 86 = .ok (.if_icmp .ne 6, 3) := by decide +kernel
theorem dX7_whom_89 : decode cX7_whom 89 = .ok (.goto 36, 3) := by decide +kernel
theorem dX7_whom_92 : decode cX7_whom 92 = .ok (.aload_n 0, 1) := by decide +kernel
theorem dX7_whom_93 : decode cX7_whom 93 = .ok (.getfield 9, 3) := by decide +kernel
theorem dX7_whom_96 : decode cX7_whom 96 = .ok (.iload_n 3, 1) := by decide +kernel
theorem dX7_whom_97 : decode cX7_whom 97 = .ok (.iload 7, 2) := by decide +kernel
theorem dX7_whom_99 : decode cX7_whom 99 = .ok (.iastore, 1) := by decide +kernel
theorem dX7_whom_100 : decode cX7_whom 100 = .ok (.aload_n 0, 1) := by decide +kernel
theorem dX7_whom_101 : decode cX7_whom 101 = .ok (.iload_n 2, 1) := by decide +kernel
theorem dX7_whom_102 : decode cX7_whom 102 = .ok (.invokevirtual 226, 3) := by decide +kernel
theorem dX7_whom_105 : decode cX7_whom 105 = .ok (.istore 8, 2) := by decide +kernel
theorem dX7_whom_107 : decode cX7_whom 107 = .ok (.iload 8, 2) := by decide +kernel
theorem dX7_whom_109 : decode cX7_whom 109 = .ok (.iload 6, 2) := by decide +kernel
theorem dX7_whom_111 : decode cX7_whom 111 = .ok (.if_icmp .lt 6, 3) := by decide +kernel
theorem dX7_whom_114 : decode cX7_whom 114 = .ok (.goto 11, 3) := by decide +kernel
theorem dX7_whom_117 : decode cX7_whom 117 = .ok (.iload 7, 2) := by decide +kernel
theorem dX7_whom_119 : decode cX7_whom 119 = .ok (.istore 5, 2) := by decide +kernel
theorem dX7_whom_121 : decode cX7_whom 121 = .ok (.iload 8, 2) := by decide +kernel
theorem dX7_whom_123 : decode cX7_whom 123 = .ok (.istore 6, 2) := by decide +kernel
theorem dX7_whom_125 : decode cX7_whom 125 = .ok (.iinc 7 1, 3) := by decide +kernel
theorem dX7_whom_128 : decode cX7_whom 128 = .ok (.goto (-56), 3) := by decide +kernel
theorem dX7_whom_131 : decode cX7_whom 131 = .ok (.aload_n 0, 1) := by decide +kernel
theorem dX7_whom_132 : decode cX7_whom 132 = .ok (.getfield 9, 3) := by decide +kernel
theorem dX7_whom_135 : decode cX7_whom 135 = .ok (.iload_n 3, 1) := by decide +kernel
theorem dX7_whom_136 : decode cX7_whom 136 = .ok (.iload 4, 2) := by decide +kernel
theorem dX7_whom_138 : decode cX7_whom 138 = .ok (.iastore, 1) := by decide +kernel
theorem dX7_whom_139 : decode cX7_whom 139 = .ok (.iload 5, 2) := by decide +kernel
theorem dX7_whom_141 : decode cX7_whom 141 = .ok (.ireturn, 1) := by decide +kernel
theorem dX7_seed_0 : decode cX7_seed 0 = .ok (.aload_n 0, 1) := by decide +kernel
theorem dX7_seed_1 : decode cX7_seed 1 = .ok (.iconst 1, 1) := by decide +kernel
theorem dX7_seed_2 : decode cX7_seed 2 = .ok (.iload_n 1, 1) := by decide +kernel
theorem dX7_seed_3 : decode cX7_seed 3 = .ok (.invokevirtual 72, 3) := by decide +kernel
theorem dX7_seed_6 : decode cX7_seed 6 = .ok (.ireturn, 1) := by decide +kernel
theorem dX7_feed_0 : decode cX7_feed 0 = .ok (.iload_n 2, 1) := by decide +kernel
theorem dX7_feed_1 : decode cX7_feed 1 = .ok (.i2l, 1) := by decide +kernel
theorem dX7_feed_2 : decode cX7_feed 2 = .ok (.lconst 1, 1) := by decide +kernel
theorem dX7_feed_3 : decode cX7_feed 3 = .ok (.ldc2_w 183, 3) := by decide +kernel
theorem dX7_feed_6 : decode cX7_feed 6 = .ok (.invokestatic 51, 3) := by decide +kernel
theorem dX7_feed_9 : decode cX7_feed 9 = .ok (.ifCond .ne 10, 3) := by decide +kernel
theorem dX7_feed_12 : decode cX7_feed 12 = .ok (.aload_n 0, 1) := by decide +kernel
theorem dX7_feed_13 : decode cX7_feed 13 = .ok (.ldc 43, 2) := by decide +kernel
theorem dX7_feed_15 : decode cX7_feed 15 = .ok (.invokevirtual 45, 3) := by decide +kernel
theorem dX7_feed_18 : decode cX7_feed 18 = .ok (.ireturn, 1) := by decide +kernel
theorem dX7_feed_19 : decode cX7_feed 19 = .ok (.aload_n 0, 1) := by decide +kernel
theorem dX7_feed_20 : decode cX7_feed 20 = .ok (.getfield 229, 3) := by decide +kernel
theorem dX7_feed_23 : decode cX7_feed 23 = .ok (.iload_n 2, 1) := by decide +kernel
theorem dX7_feed_24 : decode cX7_feed 24 = .ok (.iadd, 1) := by decide +kernel
theorem dX7_feed_25 : decode cX7_feed 25 = .ok (.bipush 120, 2) := by decide +kernel
theorem dX7_feed_27 : decode cX7_feed 27 = .ok (.if_icmp .le 10, 3) := by decide +kernel
theorem dX7_feed_30 : decode cX7_feed 30 = .ok (.aload_n 0, 1) := by decide +kernel
theorem dX7_feed_31 : decode cX7_feed 31 = .ok (.ldc 80, 2) := by decide +kernel
theorem dX7_feed_33 : decode cX7_feed 33 = .ok (.invokevirtual 45, 3) := by decide +kernel
theorem dX7_feed_36 : decode cX7_feed 36 = .ok (.ireturn, 1) := by decide +kernel
theorem dX7_feed_37 : decode cX7_feed 37 = .ok (.iload_n 2, 1) := by decide +kernel
theorem dX7_feed_38 : decode cX7_feed 38 = .ok (.iconst 1, 1) := by decide +kernel
theorem dX7_feed_39 : decode cX7_feed 39 = .ok (.isub, 1) := by decide +kernel
theorem dX7_feed_40 : decode cX7_feed 40 = .ok (.istore_n 3, 1) := by decide +kernel
theorem dX7_feed_41 : decode cX7_feed 41 = .ok (.iload_n 3, 1) := by decide +kernel
theorem dX7_feed_42 : decode cX7_feed 42 = .ok (.ifCond .lt 38, 3) := by decide +kernel
theorem dX7_feed_45 : decode cX7_feed 45 = .ok (.aload_n 0, 1) := by decide +kernel
theorem dX7_feed_46 : decode cX7_feed 46 = .ok (.getfield 31, 3) := by decide +kernel
theorem dX7_feed_49 : decode cX7_feed 49 = .ok (.aload_n 0, 1) := by decide +kernel
theorem dX7_feed_50 : decode cX7_feed 50 = .ok (.getfield 229, 3) := by decide +kernel
theorem dX7_feed_53 : decode cX7_feed 53 = .ok (.iload_n 1, 1) := by decide +kernel
theorem dX7_feed_54 : decode cX7_feed 54 = .ok (.bipush 8, 2) := by decide +kernel
theorem dX7_feed_56 : decode cX7_feed 56 = .ok (.iload_n 3, 1) := by decide +kernel
theorem dX7_feed_57 : decode cX7_feed 57 = .ok (.imul, 1) := by decide +kernel
theorem dX7_feed_58 : decode cX7_feed 58 = .ok (.ishr, 1) := by decide +kernel
theorem dX7_feed_59 : decode cX7_feed 59 = .ok (.sipush 255, 3) := by decide +kernel
theorem dX7_feed_62 : decode cX7_feed 62 = .ok (.iand, 1) := by decide +kernel
theorem dX7_feed_63 : decode cX7_feed 63 = .ok (.iastore, 1) := by decide +kernel
theorem dX7_feed_64 : decode cX7_feed 64 = .ok (.aload_n 0, 1) := by decide +kernel
theorem dX7_feed_65 : decode cX7_feed 65 = .ok (.dup, 1) := by decide +kernel
theorem dX7_feed_66 : decode cX7_feed 66 = .ok (.getfield 229, 3) := by decide +kernel
theorem dX7_feed_69 : decode cX7_feed 69 = .ok (.iconst 1, 1) := by decide +kernel
theorem dX7_feed_70 : decode cX7_feed 70 = .ok (.iadd, 1) := by decide +kernel
theorem dX7_feed_71 : decode cX7_feed 71 = .ok (.putfield 229, 3) := by decide +kernel
theorem dX7_feed_74 : decode cX7_feed 74 = .ok (.iinc 3 (-1), 3) := by decide +kernel
theorem dX7_feed_77 : decode cX7_feed 77 = .ok (.goto (-36), 3) := by decide +kernel
theorem dX7_feed_80 : decode cX7_feed 80 = .ok (.aload_n 0, 1) := by decide +kernel
theorem dX7_feed_81 : decode cX7_feed 81 = .ok (.getfield 229, 3) := by decide +kernel
theorem dX7_feed_84 : decode cX7_feed 84 = .ok (.ireturn, 1) := by decide +kernel
theorem dX7_wipe_0 : decode cX7_wipe 0 = .ok (.aload_n 0, 1) := by decide +kernel
theorem dX7_wipe_1 : decode cX7_wipe 1 = .ok (.getfield 229, 3) := by decide +kernel
theorem dX7_wipe_4 : decode cX7_wipe 4 = .ok (.istore_n 1, 1) := by decide +kernel
theorem dX7_wipe_5 : decode cX7_wipe 5 = .ok (.aload_n 0, 1) := by decide +kernel
theorem dX7_wipe_6 : decode cX7_wipe 6 = .ok (.iconst 0, 1) := by decide +kernel
theorem dX7_wipe_7 : decode cX7_wipe 7 = .ok (.putfield 229, 3) := by decide +kernel
theorem dX7_wipe_10 : decode cX7_wipe 10 = .ok (.iload_n 1, 1) := by decide +kernel
theorem dX7_wipe_11 : decode cX7_wipe 11 = .ok (.ireturn, 1) := by decide +kernel
theorem dX7_isByte_0 : decode cX7_isByte 0 = .ok (.iload_n 1, 1) := by decide +kernel
theorem dX7_isByte_1 : decode cX7_isByte 1 = .ok (.aload_n 0, 1) := by decide +kernel
theorem dX7_isByte_2 : decode cX7_isByte 2 = .ok (.getfield 229, 3) := by decide +kernel
theorem dX7_isByte_5 : decode cX7_isByte 5 = .ok (.if_icmp .ge 24, 3) := by decide +kernel
theorem dX7_isByte_8 : decode cX7_isByte 8 = .ok (.aload_n 0, 1) := by decide +kernel
theorem dX7_isByte_9 : decode cX7_isByte 9 = .ok (.getfield 31, 3) := by decide +kernel
theorem dX7_isByte_12 : decode cX7_isByte 12 = .ok (.iload_n 1, 1) := by decide +kernel
theorem dX7_isByte_13 : decode cX7_isByte 13 = .ok (.iaload, 1) := by decide +kernel
theorem dX7_isByte_14 : decode cX7_isByte 14 = .ok (.i2l, 1) := by decide +kernel
theorem dX7_isByte_15 : decode cX7_isByte 15 = .ok (.iload_n 2, 1) := by decide +kernel
theorem dX7_isByte_16 : decode cX7_isByte 16 = .ok (.i2l, 1) := by decide +kernel
theorem dX7_isByte_17 : decode cX7_isByte 17 = .ok (.iload_n 3, 1) := by decide +kernel
theorem dX7_isByte_18 : decode cX7_isByte 18 = .ok (.i2l, 1) := by decide +kernel
theorem dX7_isByte_19 : decode cX7_isByte 19 = .ok (.invokestatic 51, 3) := by decide +kernel
theorem dX7_isByte_22 : decode cX7_isByte 22 = .ok (.ifCond .eq 7, 3) := by decide +kernel
theorem dX7_isByte_25 : decode cX7_isByte 25 = .ok (.iconst 1, 1) := by decide +kernel
theorem dX7_isByte_26 : decode cX7_isByte 26 = .ok (.goto 4, 3) := by decide +kernel
theorem dX7_isByte_29 : decode cX7_isByte 29 = .ok (.iconst 0, 1) := by decide +kernel
theorem dX7_isByte_30 : decode cX7_isByte 30 = .ok (.ireturn, 1) := by decide +kernel
theorem dX7_token_0 : decode cX7_token 0 = .ok (.aload_n 0, 1) := by decide +kernel
theorem dX7_token_1 : decode cX7_token 1 = .ok (.aload_n 0, 1) := by decide +kernel
theorem dX7_token_2 : decode cX7_token 2 = .ok (.getfield 233, 3) := by decide +kernel
theorem dX7_token_5 : decode cX7_token 5 = .ok (.putfield 236, 3) := by decide +kernel
theorem dX7_token_8 : decode cX7_token 8 = .ok (.aload_n 0, 1) := by decide +kernel
theorem dX7_token_9 : decode cX7_token 9 = .ok (.aload_n 0, 1) := by decide +kernel
theorem dX7_token_10 : decode cX7_token 10 = .ok (.getfield 236, 3) := by decide +kernel
theorem dX7_token_13 : decode cX7_token 13 = .ok (.bipush 32, 2) := by decide +kernel
theorem dX7_token_15 : decode cX7_token 15 = .ok (.bipush 32, 2) := by decide +kernel
theorem dX7_token_17 : decode cX7_token 17 = .ok (.invokevirtual 239, 3) := by decide +kernel
theorem dX7_token_20 : decode cX7_token 20 = .ok (.ifCond .eq 16, 3) := by decide +kernel
theorem dX7_token_23 : decode cX7_token 23 = .ok (.aload_n 0, 1) := by decide +kernel
theorem dX7_token_24 : decode cX7_token 24 = .ok (.dup, 1) := by decide +kernel
theorem dX7_token_25 : decode cX7_token 25 = .ok (.getfield 236, 3) := by decide +kernel
theorem dX7_token_28 : decode cX7_token 28 = .ok (.iconst 1, 1) := by decide +kernel
theorem dX7_token_29 : decode cX7_token 29 = .ok (.iadd, 1) := by decide +kernel
theorem dX7_token_30 : decode cX7_token 30 = .ok (.putfield 236, 3) := by decide +kernel
theorem dX7_token_33 : decode cX7_token 33 = .ok (.goto (-25), 3) := by decide +kernel
theorem dX7_token_36 : decode cX7_token 36 = .ok (.aload_n 0, 1) := by decide +kernel
theorem dX7_token_37 : decode cX7_token 37 = .ok (.aload_n 0, 1) := by decide +kernel
theorem dX7_token_38 : decode cX7_token 38 = .ok (.getfield 236, 3) := by decide +kernel
theorem dX7_token_41 : decode cX7_token 41 = .ok (.putfield 233, 3) := by decide +kernel
theorem dX7_token_44 : decode cX7_token 44 = .ok (.aload_n 0, 1) := by decide +kernel
theorem dX7_token_45 : decode cX7_token 45 = .ok (.iconst 0, 1) := by decide +kernel
theorem dX7_token_46 : decode cX7_token 46 = .ok (.putfield 243, 3) := by decide +kernel
theorem dX7_token_49 : decode cX7_token 49 = .ok (.aload_n 0, 1) := by decide +kernel
theorem dX7_token_50 : decode cX7_token 50 = .ok (.aload_n 0, 1) := by decide +kernel
theorem dX7_token_51 : decode cX7_token 51 = .ok (.getfield 236, 3) := by decide +kernel
theorem dX7_token_54 : decode cX7_token 54 = .ok (.aload_n 0, 1) := by decide +kernel
theorem dX7_token_55 : decode cX7_token 55 = .ok (.getfield 229, 3) := by decide +kernel
theorem dX7_token_58 : decode cX7_token 58 = .ok (.if_icmp .ne 7, 3) := by decide +kernel
theorem dX7_token_61 : decode cX7_token 61 = .ok (.iconst 0, 1) := by decide +kernel
theorem dX7_token_62 : decode cX7_token 62 = .ok (.goto 42, 3) := by decide +kernel
theorem dX7_token_65 : decode cX7_token 65 = .ok (.aload_n 0, 1) := by decide +kernel
theorem dX7_token_66 : decode cX7_token 66 = .ok (.aload_n 0, 1) := by decide +kernel
theorem dX7_token_67 : decode cX7_token 67 = .ok (.getfield 236, 3) := by decide +kernel
theorem dX7_token_70 : decode cX7_token 70 = .ok (.bipush 97, 2) := by decide +kernel
theorem dX7_token_72 : decode cX7_token 72 = .ok (.bipush 122, 2) := by decide +kernel
theorem dX7_token_74 : decode cX7_token 74 = .ok (.invokevirtual 239, 3) := by decide +kernel
theorem dX7_token_77 : decode cX7_token 77 = .ok (.ifCond .eq 7, 3) := by decide +kernel
theorem dX7_token_80 : decode cX7_token 80 = .ok (.iconst 1, 1) := by decide +kernel
theorem dX7_token_81 : decode cX7_token 81 = .ok (.goto 23, 3) := by decide +kernel
theorem dX7_token_84 : decode cX7_token 84 = .ok (.aload_n 0, 1) := by decide +kernel
theorem dX7_token_85 : decode cX7_token 85 = .ok (.aload_n 0, 1) := by decide +kernel
theorem dX7_token_86 : decode cX7_token 86 = .ok (.getfield 236, 3) := by decide +kernel
theorem dX7_token_89 : decode cX7_token 89 = .ok (.bipush 48, 2) := by decide +kernel
theorem dX7_token_91 : decode cX7_token 91 = .ok (.bipush 57, 2) := by decide +kernel
theorem dX7_token_93 : decode cX7_token 93 = .ok (.invokevirtual 239, 3) := by decide +kernel
theorem dX7_token_96 : decode cX7_token 96 = .ok (.ifCond .eq 7, 3) := by decide +kernel
theorem dX7_token_99 : decode cX7_token 99 = .ok (.iconst 2, 1) := by decide +kernel
theorem dX7_token_100 : decode cX7_token 100 = .ok (.goto 4, 3) := by decide +kernel
theorem dX7_token_103 : decode cX7_token 103 = .ok (.iconst 3, 1) := by decide +kernel
theorem dX7_token_104 : decode cX7_token 104 = .ok (.putfield 246, 3) := by decide +kernel
theorem dX7_token_107 : decode cX7_token 107 = .ok (.aload_n 0, 1) := by decide +kernel
theorem dX7_token_108 : decode cX7_token 108 = .ok (.getfield 246, 3) := by decide +kernel
theorem dX7_token_111 : decode cX7_token 111 = .ok (.iconst 3, 1) := by decide +kernel
theorem dX7_token_112 : decode cX7_token 112 = .ok (.if_icmp .ne 13, 3) := by decide +kernel
theorem dX7_token_115 : decode cX7_token 115 = .ok (.aload_n 0, 1) := by decide +kernel
theorem dX7_token_116 : decode cX7_token 116 = .ok (.dup, 1) := by decide +kernel
theorem dX7_token_117 : decode cX7_token 117 = .ok (.getfield 233, 3) := by decide +kernel
theorem dX7_token_120 : decode cX7_token 120 = .ok (.iconst 1, 1) := by decide +kernel
theorem dX7_token_121 : decode cX7_token 121 = .ok (.iadd, 1) := by decide +kernel
theorem dX7_token_122 : decode cX7_token 122 = .ok (.putfield 233, 3) := by decide +kernel
theorem dX7_token_125 : decode cX7_token 125 = .ok (.aload_n 0, 1) := by decide +kernel
theorem dX7_token_126 : decode cX7_token 126 = .ok (.getfield 246, 3) := by decide +kernel
theorem dX7_token_129 : decode cX7_token 129 = .ok (.iconst 1, 1) := by decide +kernel
theorem dX7_token_130 : decode cX7_token 130 = .ok (.if_icmp .ne 31, 3) := by decide +kernel
theorem dX7_token_133 : decode cX7_token 133 = .ok (.aload_n 0, 1) := by decide +kernel
theorem dX7_token_134 : decode cX7_token 134 = .ok (.aload_n 0, 1) := by decide +kernel
theorem dX7_token_135 : decode cX7_token 135 = .ok (.getfield 233, 3) := by decide +kernel
theorem dX7_token_138 : decode cX7_token 138 = .ok (.bipush 97, 2) := by decide +kernel
theorem dX7_token_140 : decode cX7_token 140 = .ok (.bipush 122, 2) := by decide +kernel
theorem dX7_token_142 : decode cX7_token 142 = .ok (.invokevirtual 239, 3) := by decide +kernel
theorem dX7_token_145 : decode cX7_token 145 = .ok (.ifCond .eq 16, 3) := by decide +kernel
theorem dX7_token_148 : decode cX7_token 148 = .ok (.aload_n 0, 1) := by decide +kernel
theorem dX7_token_149 : decode cX7_token 149 = .ok (.dup, 1) := by decide +kernel
theorem dX7_token_150 : decode cX7_token 150 = .ok (.getfield 233, 3) := by decide +kernel
theorem dX7_token_153 : decode cX7_token 153 = .ok (.iconst 1, 1) := by decide +kernel
theorem dX7_token_154 : decode cX7_token 154 = .ok (.iadd, 1) := by decide +kernel
theorem dX7_token_155 : decode cX7_token 155 = .ok (.putfield 233, 3) := by decide +kernel
theorem dX7_token_158 : decode cX7_token 158 = .ok (.goto (-33), 3) := by decide +kernel
theorem dX7_token_161 : decode cX7_token 161 = .ok (.aload_n 0, 1) := by decide +kernel
theorem dX7_token_162 : decode cX7_token 162 = .ok (.getfield 246, 3) := by decide +kernel
theorem dX7_token_165 : decode cX7_token 165 = .ok (.iconst 2, 1) := by decide +kernel
theorem dX7_token_166 : decode cX7_token 166 = .ok (.if_icmp .ne 72, 3) := by decide +kernel
theorem dX7_token_169 : decode cX7_token 169 = .ok (.aload_n 0, 1) := by decide +kernel
theorem dX7_token_170 : decode cX7_token 170 = .ok (.aload_n 0, 1) := by decide +kernel
theorem dX7_token_171 : decode cX7_token 171 = .ok (.getfield 233, 3) := by decide +kernel
theorem dX7_token_174 : decode cX7_token 174 = .ok (.bipush 48, 2) := by decide +kernel
theorem dX7_token_176 : decode cX7_token 176 = .ok (.bipush 57, 2) := by decide +kernel
theorem dX7_token_178 : decode cX7_token 178 = .ok (.invokevirtual 239, 3) := by decide +kernel
theorem dX7_token_181 : decode cX7_token 181 = .ok (.ifCond .eq 57, 3) := by decide +kernel
theorem dX7_token_184 : decode cX7_token 184 = .ok (.aload_n 0, 1) := by decide +kernel
theorem dX7_token_185 : decode cX7_token 185 = .ok (.aload_n 0, 1) := by decide +kernel
theorem dX7_token_186 : decode cX7_token 186 = .ok (.getfield 243, 3) := by decide +kernel
theorem dX7_token_189 : decode cX7_token 189 = .ok (.sipush 9999, 3) := by decide +kernel
theorem dX7_token_192 : decode cX7_token 192 = .ok (.if_icmp .le 10, 3) := by decide +kernel
theorem dX7_token_195 : decode cX7_token 195 = .ok (.aload_n 0, 1) := by decide +kernel
theorem dX7_token_196 : decode cX7_token 196 = .ok (.getfield 243, 3) := by decide +kernel
theorem dX7_token_199 : decode cX7_token 199 = .ok (.goto 23, 3) := by decide +kernel
theorem dX7_token_202 : decode cX7_token 202 = .ok (.bipush 10, 2) := by decide +kernel
theorem dX7_token_204 : decode cX7_token 204 = .ok (.aload_n 0, 1) := by decide +kernel
theorem dX7_token_205 : decode cX7_token 205 = .ok (.getfield 243, 3) := by decide +kernel
theorem dX7_token_208 : decode cX7_token 208 = .ok (.imul, 1) := by decide +kernel
theorem dX7_token_209 : decode cX7_token 209 = .ok (.aload_n 0, 1) := by decide +kernel
theorem dX7_token_210 : decode cX7_token 210 = .ok (.getfield 31, 3) := by decide +kernel
theorem dX7_token_213 : decode cX7_token 213 = .ok (.aload_n 0, 1) := by decide +kernel
theorem dX7_token_214 : decode cX7_token 214 = .ok (.getfield 233, 3) := by decide +kernel
theorem dX7_token_217 : decode cX7_token 217 = .ok (.iaload, 1) := by decide +kernel
theorem dX7_token_218 : decode cX7_token 218 = .ok (.iadd, 1) := by decide +kernel
theorem dX7_token_219 : decode cX7_token 219 = .ok (.bipush 48, 2) := by decide +kernel
theorem dX7_token_221 : decode cX7_token 221 = .ok (.isub, 1) := by decide +kernel
theorem dX7_token_222 : decode cX7_token 222 = .ok (.putfield 243, 3) := by decide +kernel
theorem dX7_token_225 : decode cX7_token 225 = .ok (.aload_n 0, 1) := by decide +kernel
theorem dX7_token_226 : decode cX7_token 226 = .ok (.dup, 1) := by decide +kernel
theorem dX7_token_227 : decode cX7_token 227 = .ok (.getfield 233, 3) := by decide +kernel
theorem dX7_token_230 : decode cX7_token 230 = .ok (.iconst 1, 1) := by decide +kernel
theorem dX7_token_231 : decode cX7_token 231 = .ok (.iadd, 1) := by decide +kernel
theorem dX7_token_232 : decode cX7_token 232 = .ok (.putfield 233, 3) := by decide +kernel
theorem dX7_token_235 : decode cX7_token 235 = .ok (.goto (-74), 3) := by decide +kernel
theorem dX7_token_238 : decode cX7_token 238 = .ok (.return_, 1) := by decide +kernel
theorem dX7_isWord_0 : decode cX7_isWord 0 = .ok (.aload_n 0, 1) := by decide +kernel
theorem dX7_isWord_1 : decode cX7_isWord 1 = .ok (.getfield 249, 3) := by decide +kernel
theorem dX7_isWord_4 : decode cX7_isWord 4 = .ok (.ifCond .ne 31, 3) := by decide +kernel
theorem dX7_isWord_7 : decode cX7_isWord 7 = .ok (.aload_n 0, 1) := by decide +kernel
theorem dX7_isWord_8 : decode cX7_isWord 8 = .ok (.getfield 246, 3) := by decide +kernel
theorem dX7_isWord_11 : decode cX7_isWord 11 = .ok (.iconst 1, 1) := by decide +kernel
theorem dX7_isWord_12 : decode cX7_isWord 12 = .ok (.if_icmp .ne 23, 3) := by decide +kernel
theorem dX7_isWord_15 : decode cX7_isWord 15 = .ok (.aload_n 0, 1) := by decide +kernel
theorem dX7_isWord_16 : decode cX7_isWord 16 = .ok (.getfield 233, 3) := by decide +kernel
theorem dX7_isWord_19 : decode cX7_isWord 19 = .ok (.aload_n 0, 1) := by decide +kernel
theorem dX7_isWord_20 : decode cX7_isWord 20 = .ok (.getfield 236, 3) := by decide +kernel
theorem dX7_isWord_23 : decode cX7_isWord 23 = .ok (.isub, 1) := by decide +kernel
theorem dX7_isWord_24 : decode cX7_isWord 24 = .ok (.aload_n 1, 1) := by decide +kernel
theorem dX7_isWord_25 : decode cX7_isWord 25 = .ok (.invokevirtual 253, 3) := by decide +kernel
theorem dX7_isWord_28 : decode cX7_isWord 28 = .ok (.if_icmp .ne 7, 3) := by decide +kernel
theorem dX7_isWord_31 : decode cX7_isWord 31 = .ok (.iconst 1, 1) := by decide +kernel
theorem dX7_isWord_32 : decode cX7_isWord 32 = .ok (.goto 4, 3) := by decide +kernel
theorem dX7_isWord_35 : decode cX7_isWord 35 = .ok (.iconst 0, 1) := by decide +kernel
theorem dX7_isWord_36 : decode cX7_isWord 36 = .ok (.istore_n 2, 1) := by decide +kernel
theorem dX7_isWord_37 : decode cX7_isWord 37 = .ok (.iconst 0, 1) := by decide +kernel
theorem dX7_isWord_38 : decode cX7_isWord 38 = .ok (.istore_n 3, 1) := by decide +kernel
theorem dX7_isWord_39 : decode cX7_isWord 39 = .ok (.iload_n 2, 1) := by decide +kernel
theorem dX7_isWord_40 : decode cX7_isWord 40 = .ok (.ifCond .eq 42, 3) := by decide +kernel
theorem dX7_isWord_43 : decode cX7_isWord 43 = .ok (.iload_n 3, 1) := by decide +kernel
theorem dX7_isWord_44 : decode cX7_isWord 44 = .ok (.aload_n 1, 1) := by decide +kernel
theorem dX7_isWord_45 : decode cX7_isWord 45 = .ok (.invokevirtual 253, 3) := by decide +kernel
theorem dX7_isWord_48 : decode cX7_isWord 48 = .ok (.if_icmp .ge 34, 3) := by decide +kernel
theorem dX7_isWord_51 : decode cX7_isWord 51 = .ok (.aload_n 0, 1) := by decide +kernel
theorem dX7_isWord_52 : decode cX7_isWord 52 = .ok (.getfield 31, 3) := by decide +kernel
theorem dX7_isWord_55 : decode cX7_isWord 55 = .ok (.aload_n 0, 1) := by decide +kernel
theorem dX7_isWord_56 : decode cX7_isWord 56 = .ok (.getfield 236, 3) := by decide +kernel
theorem dX7_isWord_59 : decode cX7_isWord 59 = .ok (.iload_n 3, 1) := by decide +kernel
theorem dX7_isWord_60 : decode cX7_isWord 60 = .ok (.iadd, 1) := by decide +kernel
theorem dX7_isWord_61 : decode cX7_isWord 61 = .ok (.iaload, 1) := by decide +kernel
theorem dX7_isWord_62 : decode cX7_isWord 62 = .ok (.aload_n 1, 1) := by decide +kernel
theorem dX7_isWord_63 : decode cX7_isWord 63 = .ok (.iload_n 3, 1) := by decide +kernel
theorem dX7_isWord_64 : decode cX7_isWord 64 = .ok (.invokevirtual 258, 3) := by decide +kernel
theorem dX7_isWord_67 : decode cX7_isWord 67 = .ok (.if_icmp .ne 7, 3) := by decide +kernel
theorem dX7_isWord_70 : decode cX7_isWord 70 = .ok (.iconst 1, 1) := by decide +kernel
theorem dX7_isWord_71 : decode cX7_isWord 71 = .ok (.goto 4, 3) := by decide +kernel
theorem dX7_isWord_74 : decode cX7_isWord 74 = .ok (.iconst 0, 1) := by decide +kernel
theorem dX7_isWord_75 : decode cX7_isWord 75 = .ok (.istore_n 2, 1) := by decide +kernel
theorem dX7_isWord_76 : decode cX7_isWord 76 = .ok (.iinc 3 1, 3) := by decide +kernel
theorem dX7_isWord_79 : decode cX7_isWord 79 = .ok (.goto (-40), 3) := by decide +kernel
theorem dX7_isWord_82 : decode cX7_isWord 82 = .ok (.iload_n 2, 1) := by decide +kernel
theorem dX7_isWord_83 : decode cX7_isWord 83 = .ok (.ireturn, 1) := by decide +kernel
theorem dX7_takes_0 : decode cX7_takes 0 = .ok (.aload_n 0, 1) := by decide +kernel
theorem dX7_takes_1 : decode cX7_takes 1 = .ok (.aload_n 1, 1) := by decide +kernel
theorem dX7_takes_2 : decode cX7_takes 2 = .ok (.invokevirtual 262, 3) := by decide +kernel
theorem dX7_takes_5 : decode cX7_takes 5 = .ok (.ifCond .ne 5, 3) := by decide +kernel
theorem dX7_takes_8 : decode cX7_takes 8 = .ok (.iconst 0, 1) := by decide +kernel
theorem dX7_takes_9 : decode cX7_takes 9 = .ok (.ireturn, 1) := by decide +kernel
theorem dX7_takes_10 : decode cX7_takes 10 = .ok (.aload_n 0, 1) := by decide +kernel
theorem dX7_takes_11 : decode cX7_takes 11 = .ok (.invokevirtual 266, 3) := by decide +kernel
theorem dX7_takes_14 : decode cX7_takes 14 = .ok (.iconst 1, 1) := by decide +kernel
theorem dX7_takes_15 : decode cX7_takes 15 = .ok (.ireturn, 1) := by decide +kernel
theorem dX7_isSign_0 : decode cX7_isSign 0 = .ok (.aload_n 0, 1) := by decide +kernel
theorem dX7_isSign_1 : decode cX7_isSign 1 = .ok (.getfield 249, 3) := by decide +kernel
theorem dX7_isSign_4 : decode cX7_isSign 4 = .ok (.ifCond .ne 28, 3) := by decide +kernel
theorem dX7_isSign_7 : decode cX7_isSign 7 = .ok (.aload_n 0, 1) := by decide +kernel
theorem dX7_isSign_8 : decode cX7_isSign 8 = .ok (.getfield 246, 3) := by decide +kernel
theorem dX7_isSign_11 : decode cX7_isSign 11 = .ok (.iconst 3, 1) := by decide +kernel
theorem dX7_isSign_12 : decode cX7_isSign 12 = .ok (.if_icmp .ne 20, 3) := by decide +kernel
theorem dX7_isSign_15 : decode cX7_isSign 15 = .ok (.aload_n 0, 1) := by decide +kernel
theorem dX7_isSign_16 : decode cX7_isSign 16 = .ok (.getfield 31, 3) := by decide +kernel
theorem dX7_isSign_19 : decode cX7_isSign 19 = .ok (.aload_n 0, 1) := by decide +kernel
theorem dX7_isSign_20 : decode cX7_isSign 20 = .ok (.getfield 236, 3) := by decide +kernel
theorem dX7_isSign_23 : decode cX7_isSign 23 = .ok (.iaload, 1) := by decide +kernel
theorem dX7_isSign_24 : decode cX7_isSign 24 = .ok (.iload_n 1, 1) := by decide +kernel
theorem dX7_isSign_25 : decode cX7_isSign 25 = .ok (.if_icmp .ne 7, 3) := by decide +kernel
theorem dX7_isSign_28 : decode cX7_isSign 28 = .ok (.iconst 1, 1) := by decide +kernel
theorem dX7_isSign_29 : decode cX7_isSign 29 = .ok (.goto 4, 3) := by decide +kernel
theorem dX7_isSign_32 : decode cX7_isSign 32 = .ok (.iconst 0, 1) := by decide +kernel
theorem dX7_isSign_33 : decode cX7_isSign 33 = .ok (.ireturn, 1) := by decide +kernel
theorem dX7_number_0 : decode cX7_number 0 = .ok (.aload_n 0, 1) := by decide +kernel
theorem dX7_number_1 : decode cX7_number 1 = .ok (.aload_n 0, 1) := by decide +kernel
theorem dX7_number_2 : decode cX7_number 2 = .ok (.getfield 249, 3) := by decide +kernel
theorem dX7_number_5 : decode cX7_number 5 = .ok (.ifCond .ne 30, 3) := by decide +kernel
theorem dX7_number_8 : decode cX7_number 8 = .ok (.iload_n 3, 1) := by decide +kernel
theorem dX7_number_9 : decode cX7_number 9 = .ok (.ifCond .eq 26, 3) := by decide +kernel
theorem dX7_number_12 : decode cX7_number 12 = .ok (.aload_n 0, 1) := by decide +kernel
theorem dX7_number_13 : decode cX7_number 13 = .ok (.getfield 246, 3) := by decide +kernel
theorem dX7_number_16 : decode cX7_number 16 = .ok (.iconst 2, 1) := by decide +kernel
theorem dX7_number_17 : decode cX7_number 17 = .ok (.if_icmp .ne 18, 3) := by decide +kernel
theorem dX7_number_20 : decode cX7_number 20 = .ok (.aload_n 0, 1) := by decide +kernel
theorem dX7_number_21 : decode cX7_number 21 = .ok (.getfield 243, 3) := by decide +kernel
theorem dX7_number_24 : decode cX7_number 24 = .ok (.i2l, 1) := by decide +kernel
theorem dX7_number_25 : decode cX7_number 25 = .ok (.iload_n 1, 1) := by decide +kernel
theorem dX7_number_26 : decode cX7_number 26 = .ok (.i2l, 1) := by decide +kernel
theorem dX7_number_27 : decode cX7_number 27 = .ok (.iload_n 2, 1) := by decide +kernel
theorem dX7_number_28 : decode cX7_number 28 = .ok (.i2l, 1) := by decide +kernel
theorem dX7_number_29 : decode cX7_number 29 = .ok (.invokestatic 51, 3) := by decide +kernel
theorem dX7_number_32 : decode cX7_number 32 = .ok (.ifCond .ne 7, 3) := by decide +kernel
theorem dX7_number_35 : decode cX7_number 35 = .ok (.iconst 1, 1) := by decide +kernel
theorem dX7_number_36 : decode cX7_number 36 = .ok (.goto 4, 3) := by decide +kernel
theorem dX7_number_39 : decode cX7_number 39 = .ok (.iconst 0, 1) := by decide +kernel
theorem dX7_number_40 : decode cX7_number 40 = .ok (.putfield 249, 3) := by decide +kernel
theorem dX7_number_43 : decode cX7_number 43 = .ok (.aload_n 0, 1) := by decide +kernel
theorem dX7_number_44 : decode cX7_number 44 = .ok (.getfield 243, 3) := by decide +kernel
theorem dX7_number_47 : decode cX7_number 47 = .ok (.istore 4, 2) := by decide +kernel
theorem dX7_number_49 : decode cX7_number 49 = .ok (.aload_n 0, 1) := by decide +kernel
theorem dX7_number_50 : decode cX7_number 50 = .ok (.getfield 249, 3) := by decide +kernel
theorem dX7_number_53 : decode cX7_number 53 = .ok (.ifCond .ne 7, 3) := by decide +kernel
theorem dX7_number_56 : decode cX7_number 56 = .ok (.aload_n 0, 1) := by decide +kernel
theorem dX7_number_57 : decode cX7_number 57 = .ok (.invokevirtual 266, 3) := by decide +kernel
theorem dX7_number_60 : decode cX7_number 60 = .ok (.iload 4, 2) := by decide +kernel
theorem dX7_number_62 : decode cX7_number 62 = .ok (.ireturn, 1) := by decide +kernel
theorem dX7_word_0 : decode cX7_word 0 = .ok (.aload_n 0, 1) := by decide +kernel
theorem dX7_word_1 : decode cX7_word 1 = .ok (.aload_n 0, 1) := by decide +kernel
theorem dX7_word_2 : decode cX7_word 2 = .ok (.getfield 249, 3) := by decide +kernel
theorem dX7_word_5 : decode cX7_word 5 = .ok (.ifCond .ne 11, 3) := by decide +kernel
theorem dX7_word_8 : decode cX7_word 8 = .ok (.aload_n 0, 1) := by decide +kernel
theorem dX7_word_9 : decode cX7_word 9 = .ok (.aload_n 1, 1) := by decide +kernel
theorem dX7_word_10 : decode cX7_word 10 = .ok (.invokevirtual 269, 3) := by decide +kernel
theorem dX7_word_13 : decode cX7_word 13 = .ok (.ifCond .ne 7, 3) := by decide +kernel
theorem dX7_word_16 : decode cX7_word 16 = .ok (.iconst 1, 1) := by decide +kernel
theorem dX7_word_17 : decode cX7_word 17 = .ok (.goto 4, 3) := by decide +kernel
theorem dX7_word_20 : decode cX7_word 20 = .ok (.iconst 0, 1) := by decide +kernel
theorem dX7_word_21 : decode cX7_word 21 = .ok (.putfield 249, 3) := by decide +kernel
theorem dX7_word_24 : decode cX7_word 24 = .ok (.return_, 1) := by decide +kernel
theorem dX7_kindHere_0 : decode cX7_kindHere 0 = .ok (.aload_n 0, 1) := by decide +kernel
theorem dX7_kindHere_1 : decode cX7_kindHere 1 = .ok (.ldc_w 272, 3) := by decide +kernel
theorem dX7_kindHere_4 : decode cX7_kindHere 4 = .ok (.invokevirtual 262, 3) := by decide +kernel
theorem dX7_kindHere_7 : decode cX7_kindHere 7 = .ok (.ifCond .eq 5, 3) := by decide +kernel
theorem dX7_kindHere_10 : decode cX7_kindHere 10 = .ok (.iconst 0, 1) := by decide +kernel
theorem dX7_kindHere_11 : decode cX7_kindHere 11 = .ok (.ireturn, 1) := by decide +kernel
theorem dX7_kindHere_12 : decode cX7_kindHere 12 = .ok (.aload_n 0, 1) := by decide +kernel
theorem dX7_kindHere_13 : decode cX7_kindHere 13 = .ok (.ldc_w 274, 3) := by decide +kernel
theorem dX7_kindHere_16 : decode cX7_kindHere 16 = .ok (.invokevirtual 262, 3) := by decide +kernel
theorem dX7_kindHere_19 : decode cX7_kindHere 19 = .ok (.ifCond .eq 5, 3) := by decide +kernel
theorem dX7_kindHere_22 : decode cX7_kindHere 22 = .ok (.iconst 1, 1) := by decide +kernel
theorem dX7_kindHere_23 : decode cX7_kindHere 23 = .ok (.ireturn, 1) := by decide +kernel
theorem dX7_kindHere_24 : decode cX7_kindHere 24 = .ok (.aload_n 0, 1) := by decide +kernel
theorem dX7_kindHere_25 : decode cX7_kindHere 25 = .ok (.ldc_w 276, 3) := by decide +kernel
theorem dX7_kindHere_28 : decode cX7_kindHere 28 = .ok (.invokevirtual 262, 3) := by decide +kernel
theorem dX7_kindHere_31 : decode cX7_kindHere 31 = .ok (.ifCond .eq 5, 3) := by decide +kernel
theorem dX7_kindHere_34 : decode cX7_kindHere 34 = .ok (.iconst 2, 1) := by decide +kernel
theorem dX7_kindHere_35 : decode cX7_kindHere 35 = .ok (.ireturn, 1) := by decide +kernel
theorem dX7_kindHere_36 : decode cX7_kindHere 36 = .ok (.aload_n 0, 1) := by decide +kernel
theorem dX7_kindHere_37 : decode cX7_kindHere 37 = .ok (.ldc_w 278, 3) := by decide +kernel
theorem dX7_kindHere_40 : decode cX7_kindHere 40 = .ok (.invokevirtual 262, 3) := by decide +kernel
theorem dX7_kindHere_43 : decode cX7_kindHere 43 = .ok (.ifCond .eq 5, 3) := by decide +kernel
theorem dX7_kindHere_46 : decode cX7_kindHere 46 = .ok (.iconst 3, 1) := by decide +kernel
theorem dX7_kindHere_47 : decode cX7_kindHere 47 = .ok (.ireturn, 1) := by decide +kernel
theorem dX7_kindHere_48 : decode cX7_kindHere 48 = .ok (.aload_n 0, 1) := by decide +kernel
theorem dX7_kindHere_49 : decode cX7_kindHere 49 = .ok (.ldc_w 280, 3) := by decide +kernel
theorem dX7_kindHere_52 : decode cX7_kindHere 52 = .ok (.invokevirtual 262, 3) := by decide +kernel
theorem dX7_kindHere_55 : decode cX7_kindHere 55 = .ok (.ifCond .eq 5, 3) := by decide +kernel
theorem dX7_kindHere_58 : decode cX7_kindHere 58 = .ok (.iconst 4, 1) := by decide +kernel
theorem dX7_kindHere_59 : decode cX7_kindHere 59 = .ok (.ireturn, 1) := by decide +kernel
theorem dX7_kindHere_60 : decode cX7_kindHere 60 = .ok (.aload_n 0, 1) := by decide +kernel
theorem dX7_kindHere_61 : decode cX7_kindHere 61 = .ok (.ldc_w 282, 3) := by decide +kernel
theorem dX7_kindHere_64 : decode cX7_kindHere 64 = .ok (.invokevirtual 262, 3) := by decide +kernel
theorem dX7_kindHere_67 : decode cX7_kindHere 67 = .ok (.ifCond .eq 7, 3) := by decide +kernel
theorem dX7_kindHere_70 : decode cX7_kindHere 70 = .ok (.iconst 5, 1) := by decide +kernel
theorem dX7_kindHere_71 : decode cX7_kindHere 71 = .ok (.goto 19, 3) := by decide +kernel
theorem dX7_kindHere_74 : decode cX7_kindHere 74 = .ok (.aload_n 0, 1) := by decide +kernel
theorem dX7_kindHere_75 : decode cX7_kindHere 75 = .ok (.ldc_w 284, 3) := by decide +kernel
theorem dX7_kindHere_78 : decode cX7_kindHere 78 = .ok (.invokevirtual 262, 3) := by decide +kernel
theorem dX7_kindHere_81 : decode cX7_kindHere 81 = .ok (.ifCond .eq 8, 3) := by decide +kernel
theorem dX7_kindHere_84 : decode cX7_kindHere 84 = .ok (.bipush 6, 2) := by decide +kernel
theorem dX7_kindHere_86 : decode cX7_kindHere 86 = .ok (.goto 4, 3) := by decide +kernel
theorem dX7_kindHere_89 : decode cX7_kindHere 89 = .ok (.iconst (-1), 1) := by decide +kernel
theorem dX7_kindHere_90 : decode cX7_kindHere 90 = .ok (.ireturn, 1) := by decide +kernel
theorem dX7_nameItem_0 : decode cX7_nameItem 0 = .ok (.aload_n 0, 1) := by decide +kernel
theorem dX7_nameItem_1 : decode cX7_nameItem 1 = .ok (.iconst 0, 1) := by decide +kernel
theorem dX7_nameItem_2 : decode cX7_nameItem 2 = .ok (.bipush 7, 2) := by decide +kernel
theorem dX7_nameItem_4 : decode cX7_nameItem 4 = .ok (.iconst 1, 1) := by decide +kernel
theorem dX7_nameItem_5 : decode cX7_nameItem 5 = .ok (.invokevirtual 286, 3) := by decide +kernel
theorem dX7_nameItem_8 : decode cX7_nameItem 8 = .ok (.istore_n 1, 1) := by decide +kernel
theorem dX7_nameItem_9 : decode cX7_nameItem 9 = .ok (.aload_n 0, 1) := by decide +kernel
theorem dX7_nameItem_10 : decode cX7_nameItem 10 = .ok (.ldc_w 289, 3) := by decide +kernel
theorem dX7_nameItem_13 : decode cX7_nameItem 13 = .ok (.invokevirtual 291, 3) := by decide +kernel
theorem dX7_nameItem_16 : decode cX7_nameItem 16 = .ok (.aload_n 0, 1) := by decide +kernel
theorem dX7_nameItem_17 : decode cX7_nameItem 17 = .ok (.iconst 0, 1) := by decide +kernel
theorem dX7_nameItem_18 : decode cX7_nameItem 18 = .ok (.bipush 99, 2) := by decide +kernel
theorem dX7_nameItem_20 : decode cX7_nameItem 20 = .ok (.iconst 1, 1) := by decide +kernel
theorem dX7_nameItem_21 : decode cX7_nameItem 21 = .ok (.invokevirtual 286, 3) := by decide +kernel
theorem dX7_nameItem_24 : decode cX7_nameItem 24 = .ok (.istore_n 2, 1) := by decide +kernel
theorem dX7_nameItem_25 : decode cX7_nameItem 25 = .ok (.aload_n 0, 1) := by decide +kernel
theorem dX7_nameItem_26 : decode cX7_nameItem 26 = .ok (.getfield 249, 3) := by decide +kernel
theorem dX7_nameItem_29 : decode cX7_nameItem 29 = .ok (.ifCond .ne 14, 3) := by decide +kernel
theorem dX7_nameItem_32 : decode cX7_nameItem 32 = .ok (.aload_n 0, 1) := by decide +kernel
theorem dX7_nameItem_33 : decode cX7_nameItem 33 = .ok (.getfield 9, 3) := by decide +kernel
theorem dX7_nameItem_36 : decode cX7_nameItem 36 = .ok (.iconst 4, 1) := by decide +kernel
theorem dX7_nameItem_37 : decode cX7_nameItem 37 = .ok (.iconst 2, 1) := by decide +kernel
theorem dX7_nameItem_38 : decode cX7_nameItem 38 = .ok (.iload_n 1, 1) := by decide +kernel
theorem dX7_nameItem_39 : decode cX7_nameItem 39 = .ok (.imul, 1) := by decide +kernel
theorem dX7_nameItem_40 : decode cX7_nameItem 40 = .ok (.iadd, 1) := by decide +kernel
theorem dX7_nameItem_41 : decode cX7_nameItem 41 = .ok (.iload_n 2, 1) := by decide +kernel
theorem dX7_nameItem_42 : decode cX7_nameItem 42 = .ok (.iastore, 1) := by decide +kernel
theorem dX7_nameItem_43 : decode cX7_nameItem 43 = .ok (.return_, 1) := by decide +kernel
theorem dX7_taskItem_0 : decode cX7_taskItem 0 = .ok (.aload_n 0, 1) := by decide +kernel
theorem dX7_taskItem_1 : decode cX7_taskItem 1 = .ok (.aload_n 0, 1) := by decide +kernel
theorem dX7_taskItem_2 : decode cX7_taskItem 2 = .ok (.getfield 249, 3) := by decide +kernel
theorem dX7_taskItem_5 : decode cX7_taskItem 5 = .ok (.ifCond .ne 14, 3) := by decide +kernel
theorem dX7_taskItem_8 : decode cX7_taskItem 8 = .ok (.aload_n 0, 1) := by decide +kernel
theorem dX7_taskItem_9 : decode cX7_taskItem 9 = .ok (.getfield 9, 3) := by decide +kernel
theorem dX7_taskItem_12 : decode cX7_taskItem 12 = .ok (.iconst 2, 1) := by decide +kernel
theorem dX7_taskItem_13 : decode cX7_taskItem 13 = .ok (.iaload, 1) := by decide +kernel
theorem dX7_taskItem_14 : decode cX7_taskItem 14 = .ok (.bipush 20, 2) := by decide +kernel
theorem dX7_taskItem_16 : decode cX7_taskItem 16 = .ok (.if_icmp .ne 7, 3) := by decide +kernel
theorem dX7_taskItem_19 : decode cX7_taskItem 19 = .ok (.iconst 1, 1) := by decide +kernel
theorem dX7_taskItem_20 : decode cX7_taskItem 20 = .ok (.goto 4, 3) := by decide +kernel
theorem dX7_taskItem_23 : decode cX7_taskItem 23 = .ok (.iconst 0, 1) := by decide +kernel
theorem dX7_taskItem_24 : decode cX7_taskItem 24 = .ok (.putfield 249, 3) := by decide +kernel
theorem dX7_taskItem_27 : decode cX7_taskItem 27 = .ok (.aload_n 0, 1) := by decide +kernel
theorem dX7_taskItem_28 : decode cX7_taskItem 28 = .ok (.getfield 249, 3) := by decide +kernel
theorem dX7_taskItem_31 : decode cX7_taskItem 31 = .ok (.ifCond .eq 4, 3) := by decide +kernel
theorem dX7_taskItem_34 : decode cX7_taskItem 34 = .ok (.return_, 1) := by decide +kernel
theorem dX7_taskItem_35 : decode cX7_taskItem 35 = .ok (.aload_n 0, 1) := by decide +kernel
theorem dX7_taskItem_36 : decode cX7_taskItem 36 = .ok (.invokevirtual 266, 3) := by decide +kernel
theorem dX7_taskItem_39 : decode cX7_taskItem 39 = .ok (.aload_n 0, 1) := by decide +kernel
theorem dX7_taskItem_40 : decode cX7_taskItem 40 = .ok (.iconst 0, 1) := by decide +kernel
theorem dX7_taskItem_41 : decode cX7_taskItem 41 = .ok (.bipush 7, 2) := by decide +kernel
theorem dX7_taskItem_43 : decode cX7_taskItem 43 = .ok (.iconst 1, 1) := by decide +kernel
theorem dX7_taskItem_44 : decode cX7_taskItem 44 = .ok (.invokevirtual 286, 3) := by decide +kernel
theorem dX7_taskItem_47 : decode cX7_taskItem 47 = .ok (.istore_n 2, 1) := by decide +kernel
theorem dX7_taskItem_48 : decode cX7_taskItem 48 = .ok (.aload_n 0, 1) := by decide +kernel
theorem dX7_taskItem_49 : decode cX7_taskItem 49 = .ok (.ldc_w 295, 3) := by decide +kernel
theorem dX7_taskItem_52 : decode cX7_taskItem 52 = .ok (.invokevirtual 291, 3) := by decide +kernel
theorem dX7_taskItem_55 : decode cX7_taskItem 55 = .ok (.aload_n 0, 1) := by decide +kernel
theorem dX7_taskItem_56 : decode cX7_taskItem 56 = .ok (.iconst 1, 1) := by decide +kernel
theorem dX7_taskItem_57 : decode cX7_taskItem 57 = .ok (.sipush 999, 3) := by decide +kernel
theorem dX7_taskItem_60 : decode cX7_taskItem 60 = .ok (.iconst 1, 1) := by decide +kernel
theorem dX7_taskItem_61 : decode cX7_taskItem 61 = .ok (.invokevirtual 286, 3) := by decide +kernel
theorem dX7_taskItem_64 : decode cX7_taskItem 64 = .ok (.istore_n 3, 1) := by decide +kernel
theorem dX7_taskItem_65 : decode cX7_taskItem 65 = .ok (.aload_n 0, 1) := by decide +kernel
theorem dX7_taskItem_66 : decode cX7_taskItem 66 = .ok (.ldc_w 296, 3) := by decide +kernel
theorem dX7_taskItem_69 : decode cX7_taskItem 69 = .ok (.invokevirtual 269, 3) := by decide +kernel
theorem dX7_taskItem_72 : decode cX7_taskItem 72 = .ok (.ifCond .eq 20, 3) := by decide +kernel
theorem dX7_taskItem_75 : decode cX7_taskItem 75 = .ok (.aload_n 0, 1) := by decide +kernel
theorem dX7_taskItem_76 : decode cX7_taskItem 76 = .ok (.iconst 0, 1) := by decide +kernel
theorem dX7_taskItem_77 : decode cX7_taskItem 77 = .ok (.aload_n 0, 1) := by decide +kernel
theorem dX7_taskItem_78 : decode cX7_taskItem 78 = .ok (.getfield 9, 3) := by decide +kernel
theorem dX7_taskItem_81 : decode cX7_taskItem 81 = .ok (.iconst 2, 1) := by decide +kernel
theorem dX7_taskItem_82 : decode cX7_taskItem 82 = .ok (.iaload, 1) := by decide +kernel
theorem dX7_taskItem_83 : decode cX7_taskItem 83 = .ok (.iconst 1, 1) := by decide +kernel
theorem dX7_taskItem_84 : decode cX7_taskItem 84 = .ok (.isub, 1) := by decide +kernel
theorem dX7_taskItem_85 : decode cX7_taskItem 85 = .ok (.iconst 1, 1) := by decide +kernel
theorem dX7_taskItem_86 : decode cX7_taskItem 86 = .ok (.invokevirtual 286, 3) := by decide +kernel
theorem dX7_taskItem_89 : decode cX7_taskItem 89 = .ok (.goto 4, 3) := by decide +kernel
theorem dX7_taskItem_92 : decode cX7_taskItem 92 = .ok (.iconst (-1), 1) := by decide +kernel
theorem dX7_taskItem_93 : decode cX7_taskItem 93 = .ok (.istore 4, 2) := by decide +kernel
theorem dX7_taskItem_95 : decode cX7_taskItem 95 = .ok (.aload_n 0, 1) := by decide +kernel
theorem dX7_taskItem_96 : decode cX7_taskItem 96 = .ok (.getfield 249, 3) := by decide +kernel
theorem dX7_taskItem_99 : decode cX7_taskItem 99 = .ok (.ifCond .ne 12, 3) := by decide +kernel
theorem dX7_taskItem_102 : decode cX7_taskItem 102 = .ok (.aload_n 0, 1) := by decide +kernel
theorem dX7_taskItem_103 : decode cX7_taskItem 103 = .ok (.iload_n 1, 1) := by decide +kernel
theorem dX7_taskItem_104 : decode cX7_taskItem 104 = .ok (.iload_n 2, 1) := by decide +kernel
theorem dX7_taskItem_105 : decode cX7_taskItem 105 = .ok (.iload_n 3, 1) := by decide +kernel
theorem dX7_taskItem_106 : decode cX7_taskItem 106 = .ok (.iload 4, 2) := by decide +kernel
theorem dX7_taskItem_108 : decode cX7_taskItem 108 = .ok (.invokevirtual 81, 3) := by decide +kernel
theorem dX7_taskItem_111 : decode cX7_taskItem 111 = .ok (.return_, 1) := by decide +kernel
theorem dX7_personItem_0 : decode cX7_personItem 0 = .ok (.aload_n 0, 1) := by decide +kernel
theorem dX7_personItem_1 : decode cX7_personItem 1 = .ok (.aload_n 0, 1) := by decide +kernel
theorem dX7_personItem_2 : decode cX7_personItem 2 = .ok (.getfield 249, 3) := by decide +kernel
theorem dX7_personItem_5 : decode cX7_personItem 5 = .ok (.ifCond .ne 24, 3) := by decide +kernel
theorem dX7_personItem_8 : decode cX7_personItem 8 = .ok (.aload_n 0, 1) := by decide +kernel
theorem dX7_personItem_9 : decode cX7_personItem 9 = .ok (.ldc_w 298, 3) := by decide +kernel
theorem dX7_personItem_12 : decode cX7_personItem 12 = .ok (.invokevirtual 262, 3) := by decide +kernel
theorem dX7_personItem_15 : decode cX7_personItem 15 = .ok (.ifCond .eq 14, 3) := by decide +kernel
theorem dX7_personItem_18 : decode cX7_personItem 18 = .ok (.aload_n 0, 1) := by decide +kernel
theorem dX7_personItem_19 : decode cX7_personItem 19 = .ok (.getfield 9, 3) := by decide +kernel
theorem dX7_personItem_22 : decode cX7_personItem 22 = .ok (.iconst 3, 1) := by decide +kernel
theorem dX7_personItem_23 : decode cX7_personItem 23 = .ok (.iaload, 1) := by decide +kernel
theorem dX7_personItem_24 : decode cX7_personItem 24 = .ok (.bipush 8, 2) := by decide +kernel
theorem dX7_personItem_26 : decode cX7_personItem 26 = .ok (.if_icmp .ne 7, 3) := by decide +kernel
theorem dX7_personItem_29 : decode cX7_personItem 29 = .ok (.iconst 1, 1) := by decide +kernel
theorem dX7_personItem_30 : decode cX7_personItem 30 = .ok (.goto 4, 3) := by decide +kernel
theorem dX7_personItem_33 : decode cX7_personItem 33 = .ok (.iconst 0, 1) := by decide +kernel
theorem dX7_personItem_34 : decode cX7_personItem 34 = .ok (.putfield 249, 3) := by decide +kernel
theorem dX7_personItem_37 : decode cX7_personItem 37 = .ok (.aload_n 0, 1) := by decide +kernel
theorem dX7_personItem_38 : decode cX7_personItem 38 = .ok (.getfield 249, 3) := by decide +kernel
theorem dX7_personItem_41 : decode cX7_personItem 41 = .ok (.ifCond .eq 4, 3) := by decide +kernel
theorem dX7_personItem_44 : decode cX7_personItem 44 = .ok (.return_, 1) := by decide +kernel
theorem dX7_personItem_45 : decode cX7_personItem 45 = .ok (.aload_n 0, 1) := by decide +kernel
theorem dX7_personItem_46 : decode cX7_personItem 46 = .ok (.invokevirtual 266, 3) := by decide +kernel
theorem dX7_personItem_49 : decode cX7_personItem 49 = .ok (.aload_n 0, 1) := by decide +kernel
theorem dX7_personItem_50 : decode cX7_personItem 50 = .ok (.ldc_w 300, 3) := by decide +kernel
theorem dX7_personItem_53 : decode cX7_personItem 53 = .ok (.invokevirtual 269, 3) := by decide +kernel
theorem dX7_personItem_56 : decode cX7_personItem 56 = .ok (.ifCond .eq 14, 3) := by decide +kernel
theorem dX7_personItem_59 : decode cX7_personItem 59 = .ok (.aload_n 0, 1) := by decide +kernel
theorem dX7_personItem_60 : decode cX7_personItem 60 = .ok (.iconst 1, 1) := by decide +kernel
theorem dX7_personItem_61 : decode cX7_personItem 61 = .ok (.bipush 9, 2) := by decide +kernel
theorem dX7_personItem_63 : decode cX7_personItem 63 = .ok (.iconst 1, 1) := by decide +kernel
theorem dX7_personItem_64 : decode cX7_personItem 64 = .ok (.invokevirtual 286, 3) := by decide +kernel
theorem dX7_personItem_67 : decode cX7_personItem 67 = .ok (.goto 4, 3) := by decide +kernel
theorem dX7_personItem_70 : decode cX7_personItem 70 = .ok (.iconst 3, 1) := by decide +kernel
theorem dX7_personItem_71 : decode cX7_personItem 71 = .ok (.istore_n 1, 1) := by decide +kernel
theorem dX7_personItem_72 : decode cX7_personItem 72 = .ok (.aload_n 0, 1) := by decide +kernel
theorem dX7_personItem_73 : decode cX7_personItem 73 = .ok (.ldc_w 302, 3) := by decide +kernel
theorem dX7_personItem_76 : decode cX7_personItem 76 = .ok (.invokevirtual 269, 3) := by decide +kernel
theorem dX7_personItem_79 : decode cX7_personItem 79 = .ok (.ifCond .eq 14, 3) := by decide +kernel
theorem dX7_personItem_82 : decode cX7_personItem 82 = .ok (.aload_n 0, 1) := by decide +kernel
theorem dX7_personItem_83 : decode cX7_personItem 83 = .ok (.iconst 0, 1) := by decide +kernel
theorem dX7_personItem_84 : decode cX7_personItem 84 = .ok (.bipush 39, 2) := by decide +kernel
theorem dX7_personItem_86 : decode cX7_personItem 86 = .ok (.iconst 1, 1) := by decide +kernel
theorem dX7_personItem_87 : decode cX7_personItem 87 = .ok (.invokevirtual 286, 3) := by decide +kernel
theorem dX7_personItem_90 : decode cX7_personItem 90 = .ok (.goto 4, 3) := by decide +kernel
theorem dX7_personItem_93 : decode cX7_personItem 93 = .ok (.iconst 0, 1) := by decide +kernel
theorem dX7_personItem_94 : decode cX7_personItem 94 = .ok (.istore_n 2, 1) := by decide +kernel
theorem dX7_personItem_95 : decode cX7_personItem 95 = .ok (.iconst (-1), 1) := by decide +kernel
theorem dX7_personItem_96 : decode cX7_personItem 96 = .ok (.istore_n 3, 1) := by decide +kernel
theorem dX7_personItem_97 : decode cX7_personItem 97 = .ok (.aload_n 0, 1) := by decide +kernel
theorem dX7_personItem_98 : decode cX7_personItem 98 = .ok (.ldc_w 304, 3) := by decide +kernel
theorem dX7_personItem_101 : decode cX7_personItem 101 = .ok (.invokevirtual 269, 3) := by decide +kernel
theorem dX7_personItem_104 : decode cX7_personItem 104 = .ok (.ifCond .eq 37, 3) := by decide +kernel
theorem dX7_personItem_107 : decode cX7_personItem 107 = .ok (.aload_n 0, 1) := by decide +kernel
theorem dX7_personItem_108 : decode cX7_personItem 108 = .ok (.iconst 0, 1) := by decide +kernel
theorem dX7_personItem_109 : decode cX7_personItem 109 = .ok (.bipush 7, 2) := by decide +kernel
theorem dX7_personItem_111 : decode cX7_personItem 111 = .ok (.aload_n 0, 1) := by decide +kernel
theorem dX7_personItem_112 : decode cX7_personItem 112 = .ok (.getfield 243, 3) := by decide +kernel
theorem dX7_personItem_115 : decode cX7_personItem 115 = .ok (.invokestatic 66, 3) := by decide +kernel
theorem dX7_personItem_118 : decode cX7_personItem 118 = .ok (.ifCond .eq 14, 3) := by decide +kernel
theorem dX7_personItem_121 : decode cX7_personItem 121 = .ok (.aload_n 0, 1) := by decide +kernel
theorem dX7_personItem_122 : decode cX7_personItem 122 = .ok (.aload_n 0, 1) := by decide +kernel
theorem dX7_personItem_123 : decode cX7_personItem 123 = .ok (.getfield 243, 3) := by decide +kernel
theorem dX7_personItem_126 : decode cX7_personItem 126 = .ok (.invokevirtual 106, 3) := by decide +kernel
theorem dX7_personItem_129 : decode cX7_personItem 129 = .ok (.ifCond .ge 7, 3) := by decide +kernel
theorem dX7_personItem_132 : decode cX7_personItem 132 = .ok (.iconst 1, 1) := by decide +kernel
theorem dX7_personItem_133 : decode cX7_personItem 133 = .ok (.goto 4, 3) := by decide +kernel
theorem dX7_personItem_136 : decode cX7_personItem 136 = .ok (.iconst 0, 1) := by decide +kernel
theorem dX7_personItem_137 : decode cX7_personItem 137 = .ok (.invokevirtual 286, 3) := by decide +kernel
theorem dX7_personItem_140 : decode cX7_personItem 140 = .ok (.istore_n 3, 1) := by decide +kernel
theorem dX7_personItem_141 : decode cX7_personItem 141 = .ok (.aload_n 0, 1) := by decide +kernel
theorem dX7_personItem_142 : decode cX7_personItem 142 = .ok (.getfield 249, 3) := by decide +kernel
theorem dX7_personItem_145 : decode cX7_personItem 145 = .ok (.ifCond .ne 10, 3) := by decide +kernel
theorem dX7_personItem_148 : decode cX7_personItem 148 = .ok (.aload_n 0, 1) := by decide +kernel
theorem dX7_personItem_149 : decode cX7_personItem 149 = .ok (.iload_n 1, 1) := by decide +kernel
theorem dX7_personItem_150 : decode cX7_personItem 150 = .ok (.iload_n 2, 1) := by decide +kernel
theorem dX7_personItem_151 : decode cX7_personItem 151 = .ok (.iload_n 3, 1) := by decide +kernel
theorem dX7_personItem_152 : decode cX7_personItem 152 = .ok (.invokevirtual 119, 3) := by decide +kernel
theorem dX7_personItem_155 : decode cX7_personItem 155 = .ok (.return_, 1) := by decide +kernel
theorem dX7_item_0 : decode cX7_item 0 = .ok (.aload_n 0, 1) := by decide +kernel
theorem dX7_item_1 : decode cX7_item 1 = .ok (.invokevirtual 306, 3) := by decide +kernel
theorem dX7_item_4 : decode cX7_item 4 = .ok (.istore_n 1, 1) := by decide +kernel
theorem dX7_item_5 : decode cX7_item 5 = .ok (.aload_n 0, 1) := by decide +kernel
theorem dX7_item_6 : decode cX7_item 6 = .ok (.ldc_w 309, 3) := by decide +kernel
theorem dX7_item_9 : decode cX7_item 9 = .ok (.invokevirtual 269, 3) := by decide +kernel
theorem dX7_item_12 : decode cX7_item 12 = .ok (.ifCond .eq 10, 3) := by decide +kernel
theorem dX7_item_15 : decode cX7_item 15 = .ok (.aload_n 0, 1) := by decide +kernel
theorem dX7_item_16 : decode cX7_item 16 = .ok (.invokevirtual 311, 3) := by decide +kernel
theorem dX7_item_19 : decode cX7_item 19 = .ok (.goto 19, 3) := by decide +kernel
theorem dX7_item_22 : decode cX7_item 22 = .ok (.iload_n 1, 1) := by decide +kernel
theorem dX7_item_23 : decode cX7_item 23 = .ok (.ifCond .lt 11, 3) := by decide +kernel
theorem dX7_item_26 : decode cX7_item 26 = .ok (.aload_n 0, 1) := by decide +kernel
theorem dX7_item_27 : decode cX7_item 27 = .ok (.iload_n 1, 1) := by decide +kernel
theorem dX7_item_28 : decode cX7_item 28 = .ok (.invokevirtual 314, 3) := by decide +kernel
theorem dX7_item_31 : decode cX7_item 31 = .ok (.goto 7, 3) := by decide +kernel
theorem dX7_item_34 : decode cX7_item 34 = .ok (.aload_n 0, 1) := by decide +kernel
theorem dX7_item_35 : decode cX7_item 35 = .ok (.invokevirtual 317, 3) := by decide +kernel
theorem dX7_item_38 : decode cX7_item 38 = .ok (.return_, 1) := by decide +kernel
theorem dX7_text_0 : decode cX7_text 0 = .ok (.aload_n 0, 1) := by decide +kernel
theorem dX7_text_1 : decode cX7_text 1 = .ok (.getfield 9, 3) := by decide +kernel
theorem dX7_text_4 : decode cX7_text 4 = .ok (.aload_n 0, 1) := by decide +kernel
theorem dX7_text_5 : decode cX7_text 5 = .ok (.getfield 16, 3) := by decide +kernel
theorem dX7_text_8 : decode cX7_text 8 = .ok (.invokestatic 185, 3) := by decide +kernel
theorem dX7_text_11 : decode cX7_text 11 = .ok (.aload_n 0, 1) := by decide +kernel
theorem dX7_text_12 : decode cX7_text 12 = .ok (.iconst 0, 1) := by decide +kernel
theorem dX7_text_13 : decode cX7_text 13 = .ok (.putfield 233, 3) := by decide +kernel
theorem dX7_text_16 : decode cX7_text 16 = .ok (.aload_n 0, 1) := by decide +kernel
theorem dX7_text_17 : decode cX7_text 17 = .ok (.iconst 0, 1) := by decide +kernel
theorem dX7_text_18 : decode cX7_text 18 = .ok (.putfield 249, 3) := by decide +kernel
theorem dX7_text_21 : decode cX7_text 21 = .ok (.aload_n 0, 1) := by decide +kernel
theorem dX7_text_22 : decode cX7_text 22 = .ok (.invokevirtual 266, 3) := by decide +kernel
theorem dX7_text_25 : decode cX7_text 25 = .ok (.iconst 0, 1) := by decide +kernel
theorem dX7_text_26 : decode cX7_text 26 = .ok (.istore_n 1, 1) := by decide +kernel
theorem dX7_text_27 : decode cX7_text 27 = .ok (.iconst 1, 1) := by decide +kernel
theorem dX7_text_28 : decode cX7_text 28 = .ok (.istore_n 2, 1) := by decide +kernel
theorem dX7_text_29 : decode cX7_text 29 = .ok (.iload_n 2, 1) := by decide +kernel
theorem dX7_text_30 : decode cX7_text 30 = .ok (.ifCond .eq 28, 3) := by decide +kernel
theorem dX7_text_33 : decode cX7_text 33 = .ok (.aload_n 0, 1) := by decide +kernel
theorem dX7_text_34 : decode cX7_text 34 = .ok (.invokevirtual 320, 3) := by decide +kernel
theorem dX7_text_37 : decode cX7_text 37 = .ok (.iinc 1 1, 3) := by decide +kernel
theorem dX7_text_40 : decode cX7_text 40 = .ok (.aload_n 0, 1) := by decide +kernel
theorem dX7_text_41 : decode cX7_text 41 = .ok (.bipush 59, 2) := by decide +kernel
theorem dX7_text_43 : decode cX7_text 43 = .ok (.invokevirtual 323, 3) := by decide +kernel
theorem dX7_text_46 : decode cX7_text 46 = .ok (.istore_n 2, 1) := by decide +kernel
theorem dX7_text_47 : decode cX7_text 47 = .ok (.iload_n 2, 1) := by decide +kernel
theorem dX7_text_48 : decode cX7_text 48 = .ok (.ifCond .eq (-19), 3) := by decide +kernel
theorem dX7_text_51 : decode cX7_text 51 = .ok (.aload_n 0, 1) := by decide +kernel
theorem dX7_text_52 : decode cX7_text 52 = .ok (.invokevirtual 266, 3) := by decide +kernel
theorem dX7_text_55 : decode cX7_text 55 = .ok (.goto (-26), 3) := by decide +kernel
theorem dX7_text_58 : decode cX7_text 58 = .ok (.aload_n 0, 1) := by decide +kernel
theorem dX7_text_59 : decode cX7_text 59 = .ok (.aload_n 0, 1) := by decide +kernel
theorem dX7_text_60 : decode cX7_text 60 = .ok (.getfield 249, 3) := by decide +kernel
theorem dX7_text_63 : decode cX7_text 63 = .ok (.ifCond .ne 10, 3) := by decide +kernel
theorem dX7_text_66 : decode cX7_text 66 = .ok (.aload_n 0, 1) := by decide +kernel
theorem dX7_text_67 : decode cX7_text 67 = .ok (.getfield 246, 3) := by decide +kernel
theorem dX7_text_70 : decode cX7_text 70 = .ok (.ifCond .eq 7, 3) := by decide +kernel
theorem dX7_text_73 : decode cX7_text 73 = .ok (.iconst 1, 1) := by decide +kernel
theorem dX7_text_74 : decode cX7_text 74 = .ok (.goto 4, 3) := by decide +kernel
theorem dX7_text_77 : decode cX7_text 77 = .ok (.iconst 0, 1) := by decide +kernel
theorem dX7_text_78 : decode cX7_text 78 = .ok (.putfield 249, 3) := by decide +kernel
theorem dX7_text_81 : decode cX7_text 81 = .ok (.aload_n 0, 1) := by decide +kernel
theorem dX7_text_82 : decode cX7_text 82 = .ok (.getfield 236, 3) := by decide +kernel
theorem dX7_text_85 : decode cX7_text 85 = .ok (.istore_n 3, 1) := by decide +kernel
theorem dX7_text_86 : decode cX7_text 86 = .ok (.aload_n 0, 1) := by decide +kernel
theorem dX7_text_87 : decode cX7_text 87 = .ok (.iconst 0, 1) := by decide +kernel
theorem dX7_text_88 : decode cX7_text 88 = .ok (.putfield 229, 3) := by decide +kernel
theorem dX7_text_91 : decode cX7_text 91 = .ok (.aload_n 0, 1) := by decide +kernel
theorem dX7_text_92 : decode cX7_text 92 = .ok (.getfield 249, 3) := by decide +kernel
theorem dX7_text_95 : decode cX7_text 95 = .ok (.ifCond .ne 5, 3) := by decide +kernel
theorem dX7_text_98 : decode cX7_text 98 = .ok (.iload_n 1, 1) := by decide +kernel
theorem dX7_text_99 : decode cX7_text 99 = .ok (.ireturn, 1) := by decide +kernel
theorem dX7_text_100 : decode cX7_text 100 = .ok (.aload_n 0, 1) := by decide +kernel
theorem dX7_text_101 : decode cX7_text 101 = .ok (.getfield 16, 3) := by decide +kernel
theorem dX7_text_104 : decode cX7_text 104 = .ok (.aload_n 0, 1) := by decide +kernel
theorem dX7_text_105 : decode cX7_text 105 = .ok (.getfield 9, 3) := by decide +kernel
theorem dX7_text_108 : decode cX7_text 108 = .ok (.invokestatic 185, 3) := by decide +kernel
theorem dX7_text_111 : decode cX7_text 111 = .ok (.iconst (-1), 1) := by decide +kernel
theorem dX7_text_112 : decode cX7_text 112 = .ok (.iload_n 3, 1) := by decide +kernel
theorem dX7_text_113 : decode cX7_text 113 = .ok (.isub, 1) := by decide +kernel
theorem dX7_text_114 : decode cX7_text 114 = .ok (.ireturn, 1) := by decide +kernel
theorem dX7_hold_0 : decode cX7_hold 0 = .ok (.iload_n 1, 1) := by decide +kernel
theorem dX7_hold_1 : decode cX7_hold 1 = .ok (.i2l, 1) := by decide +kernel
theorem dX7_hold_2 : decode cX7_hold 2 = .ok (.lconst 0, 1) := by decide +kernel
theorem dX7_hold_3 : decode cX7_hold 3 = .ok (.ldc2_w 57, 3) := by decide +kernel
theorem dX7_hold_6 : decode cX7_hold 6 = .ok (.invokestatic 51, 3) := by decide +kernel
theorem dX7_hold_9 : decode cX7_hold 9 = .ok (.ifCond .eq 16, 3) := by decide +kernel
theorem dX7_hold_12 : decode cX7_hold 12 = .ok (.iload_n 2, 1) := by decide +kernel
theorem dX7_hold_13 : decode cX7_hold 13 = .ok (.iconst (-1), 1) := by decide +kernel
theorem dX7_hold_14 : decode cX7_hold 14 = .ok (.if_icmp .eq 18, 3) := by decide +kernel
theorem dX7_hold_17 : decode cX7_hold 17 = .ok (.aload_n 0, 1) := by decide +kernel
theorem dX7_hold_18 : decode cX7_hold 18 = .ok (.iload_n 2, 1) := by decide +kernel
theorem dX7_hold_19 : decode cX7_hold 19 = .ok (.invokevirtual 91, 3) := by decide +kernel
theorem dX7_hold_22 : decode cX7_hold 22 = .ok (.ifCond .ne 10, 3) := by decide +kernel
theorem dX7_hold_25 : decode cX7_hold 25 = .ok (.aload_n 0, 1) := by decide +kernel
theorem dX7_hold_26 : decode cX7_hold 26 = .ok (.ldc 43, 2) := by decide +kernel
theorem dX7_hold_28 : decode cX7_hold 28 = .ok (.invokevirtual 45, 3) := by decide +kernel
theorem dX7_hold_31 : decode cX7_hold 31 = .ok (.ireturn, 1) := by decide +kernel
theorem dX7_hold_32 : decode cX7_hold 32 = .ok (.aload_n 0, 1) := by decide +kernel
theorem dX7_hold_33 : decode cX7_hold 33 = .ok (.getfield 9, 3) := by decide +kernel
theorem dX7_hold_36 : decode cX7_hold 36 = .ok (.sipush 132, 3) := by decide +kernel
theorem dX7_hold_39 : decode cX7_hold 39 = .ok (.iload_n 1, 1) := by decide +kernel
theorem dX7_hold_40 : decode cX7_hold 40 = .ok (.iadd, 1) := by decide +kernel
theorem dX7_hold_41 : decode cX7_hold 41 = .ok (.iload_n 2, 1) := by decide +kernel
theorem dX7_hold_42 : decode cX7_hold 42 = .ok (.iastore, 1) := by decide +kernel
theorem dX7_hold_43 : decode cX7_hold 43 = .ok (.iconst 1, 1) := by decide +kernel
theorem dX7_hold_44 : decode cX7_hold 44 = .ok (.ireturn, 1) := by decide +kernel
theorem dX7_above_0 : decode cX7_above 0 = .ok (.iload_n 0, 1) := by decide +kernel
theorem dX7_above_1 : decode cX7_above 1 = .ok (.tableswitch 51 0 6 #[43, 51, 51, 45, 51, 47, 49], 43) := by decide +kernel
theorem dX7_above_44 : decode cX7_above 44 = .ok (.iconst (-1), 1) := by decide +kernel
theorem dX7_above_45 : decode cX7_above 45 = .ok (.ireturn, 1) := by decide +kernel
theorem dX7_above_46 : decode cX7_above 46 = .ok (.iconst 2, 1) := by decide +kernel
theorem dX7_above_47 : decode cX7_above 47 = .ok (.ireturn, 1) := by decide +kernel
theorem dX7_above_48 : decode cX7_above 48 = .ok (.iconst 4, 1) := by decide +kernel
theorem dX7_above_49 : decode cX7_above 49 = .ok (.ireturn, 1) := by decide +kernel
theorem dX7_above_50 : decode cX7_above 50 = .ok (.iconst 1, 1) := by decide +kernel
theorem dX7_above_51 : decode cX7_above 51 = .ok (.ireturn, 1) := by decide +kernel
theorem dX7_above_52 : decode cX7_above 52 = .ok (.iconst 0, 1) := by decide +kernel
theorem dX7_above_53 : decode cX7_above 53 = .ok (.ireturn, 1) := by decide +kernel
theorem dX7_as_0 : decode cX7_as 0 = .ok (.iload_n 1, 1) := by decide +kernel
theorem dX7_as_1 : decode cX7_as 1 = .ok (.i2l, 1) := by decide +kernel
theorem dX7_as_2 : decode cX7_as 2 = .ok (.lconst 0, 1) := by decide +kernel
theorem dX7_as_3 : decode cX7_as 3 = .ok (.ldc2_w 57, 3) := by decide +kernel
theorem dX7_as_6 : decode cX7_as 6 = .ok (.invokestatic 51, 3) := by decide +kernel
theorem dX7_as_9 : decode cX7_as 9 = .ok (.ifCond .eq 10, 3) := by decide +kernel
theorem dX7_as_12 : decode cX7_as 12 = .ok (.iload_n 2, 1) := by decide +kernel
theorem dX7_as_13 : decode cX7_as 13 = .ok (.invokestatic 75, 3) := by decide +kernel
theorem dX7_as_16 : decode cX7_as 16 = .ok (.ifCond .ne 10, 3) := by decide +kernel
theorem dX7_as_19 : decode cX7_as 19 = .ok (.aload_n 0, 1) := by decide +kernel
theorem dX7_as_20 : decode cX7_as 20 = .ok (.ldc 43, 2) := by decide +kernel
theorem dX7_as_22 : decode cX7_as 22 = .ok (.invokevirtual 45, 3) := by decide +kernel
theorem dX7_as_25 : decode cX7_as 25 = .ok (.ireturn, 1) := by decide +kernel
theorem dX7_as_26 : decode cX7_as 26 = .ok (.aload_n 0, 1) := by decide +kernel
theorem dX7_as_27 : decode cX7_as 27 = .ok (.getfield 9, 3) := by decide +kernel
theorem dX7_as_30 : decode cX7_as 30 = .ok (.sipush 132, 3) := by decide +kernel
theorem dX7_as_33 : decode cX7_as 33 = .ok (.iload_n 1, 1) := by decide +kernel
theorem dX7_as_34 : decode cX7_as 34 = .ok (.iadd, 1) := by decide +kernel
theorem dX7_as_35 : decode cX7_as 35 = .ok (.iaload, 1) := by decide +kernel
theorem dX7_as_36 : decode cX7_as 36 = .ok (.istore_n 3, 1) := by decide +kernel
theorem dX7_as_37 : decode cX7_as 37 = .ok (.iload_n 3, 1) := by decide +kernel
theorem dX7_as_38 : decode cX7_as 38 = .ok (.ifCond .ge 11, 3) := by decide +kernel
theorem dX7_as_41 : decode cX7_as 41 = .ok (.aload_n 0, 1) := by decide +kernel
theorem dX7_as_42 : decode cX7_as 42 = .ok (.ldc_w 326, 3) := by decide +kernel
theorem dX7_as_45 : decode cX7_as 45 = .ok (.invokevirtual 45, 3) := by decide +kernel
theorem dX7_as_48 : decode cX7_as 48 = .ok (.ireturn, 1) := by decide +kernel
theorem dX7_as_49 : decode cX7_as 49 = .ok (.aload_n 0, 1) := by decide +kernel
theorem dX7_as_50 : decode cX7_as 50 = .ok (.iload_n 3, 1) := by decide +kernel
theorem dX7_as_51 : decode cX7_as 51 = .ok (.iconst 0, 1) := by decide +kernel
theorem dX7_as_52 : decode cX7_as 52 = .ok (.invokevirtual 59, 3) := by decide +kernel
theorem dX7_as_55 : decode cX7_as 55 = .ok (.istore 4, 2) := by decide +kernel
theorem dX7_as_57 : decode cX7_as 57 = .ok (.iload 4, 2) := by decide +kernel
theorem dX7_as_59 : decode cX7_as 59 = .ok (.ifCond .lt 21, 3) := by decide +kernel
theorem dX7_as_62 : decode cX7_as 62 = .ok (.iload 4, 2) := by decide +kernel
theorem dX7_as_64 : decode cX7_as 64 = .ok (.iload_n 2, 1) := by decide +kernel
theorem dX7_as_65 : decode cX7_as 65 = .ok (.if_icmp .ne 5, 3) := by decide +kernel
theorem dX7_as_68 : decode cX7_as 68 = .ok (.iload_n 3, 1) := by decide +kernel
theorem dX7_as_69 : decode cX7_as 69 = .ok (.ireturn, 1) := by decide +kernel
theorem dX7_as_70 : decode cX7_as 70 = .ok (.iload 4, 2) := by decide +kernel
theorem dX7_as_72 : decode cX7_as 72 = .ok (.invokestatic 327, 3) := by decide +kernel
theorem dX7_as_75 : decode cX7_as 75 = .ok (.istore 4, 2) := by decide +kernel
theorem dX7_as_77 : decode cX7_as 77 = .ok (.goto (-20), 3) := by decide +kernel
theorem dX7_as_80 : decode cX7_as 80 = .ok (.aload_n 0, 1) := by decide +kernel
theorem dX7_as_81 : decode cX7_as 81 = .ok (.ldc_w 330, 3) := by decide +kernel
theorem dX7_as_84 : decode cX7_as 84 = .ok (.invokevirtual 45, 3) := by decide +kernel
theorem dX7_as_87 : decode cX7_as 87 = .ok (.ireturn, 1) := by decide +kernel
theorem dX7_isSheet_0 : decode cX7_isSheet 0 = .ok (.iload_n 0, 1) := by decide +kernel
theorem dX7_isSheet_1 : decode cX7_isSheet 1 = .ok (.i2l, 1) := by decide +kernel
theorem dX7_isSheet_2 : decode cX7_isSheet 2 = .ok (.lconst 0, 1) := by decide +kernel
theorem dX7_isSheet_3 : decode cX7_isSheet 3 = .ok (.ldc2_w 126, 3) := by decide +kernel
theorem dX7_isSheet_6 : decode cX7_isSheet 6 = .ok (.invokestatic 51, 3) := by decide +kernel
theorem dX7_isSheet_9 : decode cX7_isSheet 9 = .ok (.ireturn, 1) := by decide +kernel
theorem dX7_sheet_0 : decode cX7_sheet 0 = .ok (.iload_n 1, 1) := by decide +kernel
theorem dX7_sheet_1 : decode cX7_sheet 1 = .ok (.invokestatic 331, 3) := by decide +kernel
theorem dX7_sheet_4 : decode cX7_sheet 4 = .ok (.ifCond .eq 25, 3) := by decide +kernel
theorem dX7_sheet_7 : decode cX7_sheet 7 = .ok (.iload_n 2, 1) := by decide +kernel
theorem dX7_sheet_8 : decode cX7_sheet 8 = .ok (.ifCond .eq 28, 3) := by decide +kernel
theorem dX7_sheet_11 : decode cX7_sheet 11 = .ok (.iload_n 2, 1) := by decide +kernel
theorem dX7_sheet_12 : decode cX7_sheet 12 = .ok (.bipush 8, 2) := by decide +kernel
theorem dX7_sheet_14 : decode cX7_sheet 14 = .ok (.if_icmp .eq 22, 3) := by decide +kernel
theorem dX7_sheet_17 : decode cX7_sheet 17 = .ok (.iload_n 2, 1) := by decide +kernel
theorem dX7_sheet_18 : decode cX7_sheet 18 = .ok (.bipush 16, 2) := by decide +kernel
theorem dX7_sheet_20 : decode cX7_sheet 20 = .ok (.if_icmp .eq 16, 3) := by decide +kernel
theorem dX7_sheet_23 : decode cX7_sheet 23 = .ok (.iload_n 2, 1) := by decide +kernel
theorem dX7_sheet_24 : decode cX7_sheet 24 = .ok (.bipush 32, 2) := by decide +kernel
theorem dX7_sheet_26 : decode cX7_sheet 26 = .ok (.if_icmp .eq 10, 3) := by decide +kernel
theorem dX7_sheet_29 : decode cX7_sheet 29 = .ok (.aload_n 0, 1) := by decide +kernel
theorem dX7_sheet_30 : decode cX7_sheet 30 = .ok (.ldc 43, 2) := by decide +kernel
theorem dX7_sheet_32 : decode cX7_sheet 32 = .ok (.invokevirtual 45, 3) := by decide +kernel
theorem dX7_sheet_35 : decode cX7_sheet 35 = .ok (.ireturn, 1) := by decide +kernel
theorem dX7_sheet_36 : decode cX7_sheet 36 = .ok (.iload_n 3, 1) := by decide +kernel
theorem dX7_sheet_37 : decode cX7_sheet 37 = .ok (.ifCond .ge 10, 3) := by decide +kernel
theorem dX7_sheet_40 : decode cX7_sheet 40 = .ok (.aload_n 0, 1) := by decide +kernel
theorem dX7_sheet_41 : decode cX7_sheet 41 = .ok (.ldc 219, 2) := by decide +kernel
theorem dX7_sheet_43 : decode cX7_sheet 43 = .ok (.invokevirtual 45, 3) := by decide +kernel
theorem dX7_sheet_46 : decode cX7_sheet 46 = .ok (.ireturn, 1) := by decide +kernel
theorem dX7_sheet_47 : decode cX7_sheet 47 = .ok (.iload_n 3, 1) := by decide +kernel
theorem dX7_sheet_48 : decode cX7_sheet 48 = .ok (.bipush 40, 2) := by decide +kernel
theorem dX7_sheet_50 : decode cX7_sheet 50 = .ok (.if_icmp .le 10, 3) := by decide +kernel
theorem dX7_sheet_53 : decode cX7_sheet 53 = .ok (.aload_n 0, 1) := by decide +kernel
theorem dX7_sheet_54 : decode cX7_sheet 54 = .ok (.ldc 43, 2) := by decide +kernel
theorem dX7_sheet_56 : decode cX7_sheet 56 = .ok (.invokevirtual 45, 3) := by decide +kernel
theorem dX7_sheet_59 : decode cX7_sheet 59 = .ok (.ireturn, 1) := by decide +kernel
theorem dX7_sheet_60 : decode cX7_sheet 60 = .ok (.aload_n 0, 1) := by decide +kernel
theorem dX7_sheet_61 : decode cX7_sheet 61 = .ok (.getfield 34, 3) := by decide +kernel
theorem dX7_sheet_64 : decode cX7_sheet 64 = .ok (.iload_n 1, 1) := by decide +kernel
theorem dX7_sheet_65 : decode cX7_sheet 65 = .ok (.iload_n 2, 1) := by decide +kernel
theorem dX7_sheet_66 : decode cX7_sheet 66 = .ok (.iastore, 1) := by decide +kernel
theorem dX7_sheet_67 : decode cX7_sheet 67 = .ok (.aload_n 0, 1) := by decide +kernel
theorem dX7_sheet_68 : decode cX7_sheet 68 = .ok (.getfield 37, 3) := by decide +kernel
theorem dX7_sheet_71 : decode cX7_sheet 71 = .ok (.iload_n 1, 1) := by decide +kernel
theorem dX7_sheet_72 : decode cX7_sheet 72 = .ok (.iload_n 2, 1) := by decide +kernel
theorem dX7_sheet_73 : decode cX7_sheet 73 = .ok (.ifCond .ne 7, 3) := by decide +kernel
theorem dX7_sheet_76 : decode cX7_sheet 76 = .ok (.iconst 0, 1) := by decide +kernel
theorem dX7_sheet_77 : decode cX7_sheet 77 = .ok (.goto 4, 3) := by decide +kernel
theorem dX7_sheet_80 : decode cX7_sheet 80 = .ok (.iload_n 3, 1) := by decide +kernel
theorem dX7_sheet_81 : decode cX7_sheet 81 = .ok (.iastore, 1) := by decide +kernel
theorem dX7_sheet_82 : decode cX7_sheet 82 = .ok (.iconst 0, 1) := by decide +kernel
theorem dX7_sheet_83 : decode cX7_sheet 83 = .ok (.istore 4, 2) := by decide +kernel
theorem dX7_sheet_85 : decode cX7_sheet 85 = .ok (.iload 4, 2) := by decide +kernel
theorem dX7_sheet_87 : decode cX7_sheet 87 = .ok (.bipush 40, 2) := by decide +kernel
theorem dX7_sheet_89 : decode cX7_sheet 89 = .ok (.if_icmp .ge 22, 3) := by decide +kernel
theorem dX7_sheet_92 : decode cX7_sheet 92 = .ok (.aload_n 0, 1) := by decide +kernel
theorem dX7_sheet_93 : decode cX7_sheet 93 = .ok (.getfield 40, 3) := by decide +kernel
theorem dX7_sheet_96 : decode cX7_sheet 96 = .ok (.bipush 40, 2) := by decide +kernel
theorem dX7_sheet_98 : decode cX7_sheet 98 = .ok (.iload_n 1, 1) := by decide +kernel
theorem dX7_sheet_99 : decode cX7_sheet 99 = .ok (.imul, 1) := by decide +kernel
theorem dX7_sheet_100 : decode cX7_sheet 100 = .ok (.iload 4, 2) := by decide +kernel
theorem dX7_sheet_102 : decode cX7_sheet 102 = .ok (.iadd, 1) := by decide +kernel
theorem dX7_sheet_103 : decode cX7_sheet 103 = .ok (.iconst 0, 1) := by decide +kernel
theorem dX7_sheet_104 : decode cX7_sheet 104 = .ok (.iastore, 1) := by decide +kernel
theorem dX7_sheet_105 : decode cX7_sheet 105 = .ok (.iinc 4 1, 3) := by decide +kernel
theorem dX7_sheet_108 : decode cX7_sheet 108 = .ok (.goto (-23), 3) := by decide +kernel
theorem dX7_sheet_111 : decode cX7_sheet 111 = .ok (.aload_n 0, 1) := by decide +kernel
theorem dX7_sheet_112 : decode cX7_sheet 112 = .ok (.getfield 37, 3) := by decide +kernel
theorem dX7_sheet_115 : decode cX7_sheet 115 = .ok (.iload_n 1, 1) := by decide +kernel
theorem dX7_sheet_116 : decode cX7_sheet 116 = .ok (.iaload, 1) := by decide +kernel
theorem dX7_sheet_117 : decode cX7_sheet 117 = .ok (.ireturn, 1) := by decide +kernel
theorem dX7_write_0 : decode cX7_write 0 = .ok (.iload_n 1, 1) := by decide +kernel
theorem dX7_write_1 : decode cX7_write 1 = .ok (.invokestatic 331, 3) := by decide +kernel
theorem dX7_write_4 : decode cX7_write 4 = .ok (.ifCond .ne 10, 3) := by decide +kernel
theorem dX7_write_7 : decode cX7_write 7 = .ok (.aload_n 0, 1) := by decide +kernel
theorem dX7_write_8 : decode cX7_write 8 = .ok (.ldc 43, 2) := by decide +kernel
theorem dX7_write_10 : decode cX7_write 10 = .ok (.invokevirtual 45, 3) := by decide +kernel
theorem dX7_write_13 : decode cX7_write 13 = .ok (.ireturn, 1) := by decide +kernel
theorem dX7_write_14 : decode cX7_write 14 = .ok (.aload_n 0, 1) := by decide +kernel
theorem dX7_write_15 : decode cX7_write 15 = .ok (.getfield 34, 3) := by decide +kernel
theorem dX7_write_18 : decode cX7_write 18 = .ok (.iload_n 1, 1) := by decide +kernel
theorem dX7_write_19 : decode cX7_write 19 = .ok (.iaload, 1) := by decide +kernel
theorem dX7_write_20 : decode cX7_write 20 = .ok (.ifCond .ne 11, 3) := by decide +kernel
theorem dX7_write_23 : decode cX7_write 23 = .ok (.aload_n 0, 1) := by decide +kernel
theorem dX7_write_24 : decode cX7_write 24 = .ok (.ldc_w 326, 3) := by decide +kernel
theorem dX7_write_27 : decode cX7_write 27 = .ok (.invokevirtual 45, 3) := by decide +kernel
theorem dX7_write_30 : decode cX7_write 30 = .ok (.ireturn, 1) := by decide +kernel
theorem dX7_write_31 : decode cX7_write 31 = .ok (.iload_n 2, 1) := by decide +kernel
theorem dX7_write_32 : decode cX7_write 32 = .ok (.i2l, 1) := by decide +kernel
theorem dX7_write_33 : decode cX7_write 33 = .ok (.lconst 0, 1) := by decide +kernel
theorem dX7_write_34 : decode cX7_write 34 = .ok (.aload_n 0, 1) := by decide +kernel
theorem dX7_write_35 : decode cX7_write 35 = .ok (.getfield 37, 3) := by decide +kernel
theorem dX7_write_38 : decode cX7_write 38 = .ok (.iload_n 1, 1) := by decide +kernel
theorem dX7_write_39 : decode cX7_write 39 = .ok (.iaload, 1) := by decide +kernel
theorem dX7_write_40 : decode cX7_write 40 = .ok (.iconst 1, 1) := by decide +kernel
theorem dX7_write_41 : decode cX7_write 41 = .ok (.isub, 1) := by decide +kernel
theorem dX7_write_42 : decode cX7_write 42 = .ok (.i2l, 1) := by decide +kernel
theorem dX7_write_43 : decode cX7_write 43 = .ok (.invokestatic 51, 3) := by decide +kernel
theorem dX7_write_46 : decode cX7_write 46 = .ok (.ifCond .ne 10, 3) := by decide +kernel
theorem dX7_write_49 : decode cX7_write 49 = .ok (.aload_n 0, 1) := by decide +kernel
theorem dX7_write_50 : decode cX7_write 50 = .ok (.ldc 43, 2) := by decide +kernel
theorem dX7_write_52 : decode cX7_write 52 = .ok (.invokevirtual 45, 3) := by decide +kernel
theorem dX7_write_55 : decode cX7_write 55 = .ok (.ireturn, 1) := by decide +kernel
theorem dX7_write_56 : decode cX7_write 56 = .ok (.aload_n 0, 1) := by decide +kernel
theorem dX7_write_57 : decode cX7_write 57 = .ok (.getfield 40, 3) := by decide +kernel
theorem dX7_write_60 : decode cX7_write 60 = .ok (.bipush 40, 2) := by decide +kernel
theorem dX7_write_62 : decode cX7_write 62 = .ok (.iload_n 1, 1) := by decide +kernel
theorem dX7_write_63 : decode cX7_write 63 = .ok (.imul, 1) := by decide +kernel
theorem dX7_write_64 : decode cX7_write 64 = .ok (.iload_n 2, 1) := by decide +kernel
theorem dX7_write_65 : decode cX7_write 65 = .ok (.iadd, 1) := by decide +kernel
theorem dX7_write_66 : decode cX7_write 66 = .ok (.aload_n 0, 1) := by decide +kernel
theorem dX7_write_67 : decode cX7_write 67 = .ok (.getfield 34, 3) := by decide +kernel
theorem dX7_write_70 : decode cX7_write 70 = .ok (.iload_n 1, 1) := by decide +kernel
theorem dX7_write_71 : decode cX7_write 71 = .ok (.iaload, 1) := by decide +kernel
theorem dX7_write_72 : decode cX7_write 72 = .ok (.bipush 8, 2) := by decide +kernel
theorem dX7_write_74 : decode cX7_write 74 = .ok (.if_icmp .ne 8, 3) := by decide +kernel
theorem dX7_write_77 : decode cX7_write 77 = .ok (.iload_n 3, 1) := by decide +kernel
theorem dX7_write_78 : decode cX7_write 78 = .ok (.i2b, 1) := by decide +kernel
theorem dX7_write_79 : decode cX7_write 79 = .ok (.goto 20, 3) := by decide +kernel
theorem dX7_write_82 : decode cX7_write 82 = .ok (.aload_n 0, 1) := by decide +kernel
theorem dX7_write_83 : decode cX7_write 83 = .ok (.getfield 34, 3) := by decide +kernel
theorem dX7_write_86 : decode cX7_write 86 = .ok (.iload_n 1, 1) := by decide +kernel
theorem dX7_write_87 : decode cX7_write 87 = .ok (.iaload, 1) := by decide +kernel
theorem dX7_write_88 : decode cX7_write 88 = .ok (.bipush 16, 2) := by decide +kernel
theorem dX7_write_90 : decode cX7_write 90 = .ok (.if_icmp .ne 8, 3) := by decide +kernel
theorem dX7_write_93 : decode cX7_write 93 = .ok (.iload_n 3, 1) := by decide +kernel
theorem dX7_write_94 : decode cX7_write 94 = .ok (.i2s, 1) := by decide +kernel
theorem dX7_write_95 : decode cX7_write 95 = .ok (.goto 4, 3) := by decide +kernel
theorem dX7_write_98 : decode cX7_write 98 = .ok (.iload_n 3, 1) := by decide +kernel
theorem dX7_write_99 : decode cX7_write 99 = .ok (.iastore, 1) := by decide +kernel
theorem dX7_write_100 : decode cX7_write 100 = .ok (.iconst 1, 1) := by decide +kernel
theorem dX7_write_101 : decode cX7_write 101 = .ok (.ireturn, 1) := by decide +kernel
theorem dX7_copy_0 : decode cX7_copy 0 = .ok (.iload_n 1, 1) := by decide +kernel
theorem dX7_copy_1 : decode cX7_copy 1 = .ok (.invokestatic 331, 3) := by decide +kernel
theorem dX7_copy_4 : decode cX7_copy 4 = .ok (.ifCond .eq 10, 3) := by decide +kernel
theorem dX7_copy_7 : decode cX7_copy 7 = .ok (.iload_n 3, 1) := by decide +kernel
theorem dX7_copy_8 : decode cX7_copy 8 = .ok (.invokestatic 331, 3) := by decide +kernel
theorem dX7_copy_11 : decode cX7_copy 11 = .ok (.ifCond .ne 10, 3) := by decide +kernel
theorem dX7_copy_14 : decode cX7_copy 14 = .ok (.aload_n 0, 1) := by decide +kernel
theorem dX7_copy_15 : decode cX7_copy 15 = .ok (.ldc 43, 2) := by decide +kernel
theorem dX7_copy_17 : decode cX7_copy 17 = .ok (.invokevirtual 45, 3) := by decide +kernel
theorem dX7_copy_20 : decode cX7_copy 20 = .ok (.ireturn, 1) := by decide +kernel
theorem dX7_copy_21 : decode cX7_copy 21 = .ok (.aload_n 0, 1) := by decide +kernel
theorem dX7_copy_22 : decode cX7_copy 22 = .ok (.getfield 34, 3) := by decide +kernel
theorem dX7_copy_25 : decode cX7_copy 25 = .ok (.iload_n 1, 1) := by decide +kernel
theorem dX7_copy_26 : decode cX7_copy 26 = .ok (.iaload, 1) := by decide +kernel
theorem dX7_copy_27 : decode cX7_copy 27 = .ok (.ifCond .eq 12, 3) := by decide +kernel
theorem dX7_copy_30 : decode cX7_copy 30 = .ok (.aload_n 0, 1) := by decide +kernel
theorem dX7_copy_31 : decode cX7_copy 31 = .ok (.getfield 34, 3) := by decide +kernel
theorem dX7_copy_34 : decode cX7_copy 34 = .ok (.iload_n 3, 1) := by decide +kernel
theorem dX7_copy_35 : decode cX7_copy 35 = .ok (.iaload, 1) := by decide +kernel
theorem dX7_copy_36 : decode cX7_copy 36 = .ok (.ifCond .ne 11, 3) := by decide +kernel
theorem dX7_copy_39 : decode cX7_copy 39 = .ok (.aload_n 0, 1) := by decide +kernel
theorem dX7_copy_40 : decode cX7_copy 40 = .ok (.ldc_w 326, 3) := by decide +kernel
theorem dX7_copy_43 : decode cX7_copy 43 = .ok (.invokevirtual 45, 3) := by decide +kernel
theorem dX7_copy_46 : decode cX7_copy 46 = .ok (.ireturn, 1) := by decide +kernel
theorem dX7_copy_47 : decode cX7_copy 47 = .ok (.aload_n 0, 1) := by decide +kernel
theorem dX7_copy_48 : decode cX7_copy 48 = .ok (.getfield 34, 3) := by decide +kernel
theorem dX7_copy_51 : decode cX7_copy 51 = .ok (.iload_n 1, 1) := by decide +kernel
theorem dX7_copy_52 : decode cX7_copy 52 = .ok (.iaload, 1) := by decide +kernel
theorem dX7_copy_53 : decode cX7_copy 53 = .ok (.aload_n 0, 1) := by decide +kernel
theorem dX7_copy_54 : decode cX7_copy 54 = .ok (.getfield 34, 3) := by decide +kernel
theorem dX7_copy_57 : decode cX7_copy 57 = .ok (.iload_n 3, 1) := by decide +kernel
theorem dX7_copy_58 : decode cX7_copy 58 = .ok (.iaload, 1) := by decide +kernel
theorem dX7_copy_59 : decode cX7_copy 59 = .ok (.if_icmp .eq 11, 3) := by decide +kernel
theorem dX7_copy_62 : decode cX7_copy 62 = .ok (.aload_n 0, 1) := by decide +kernel
theorem dX7_copy_63 : decode cX7_copy 63 = .ok (.ldc_w 330, 3) := by decide +kernel
theorem dX7_copy_66 : decode cX7_copy 66 = .ok (.invokevirtual 45, 3) := by decide +kernel
theorem dX7_copy_69 : decode cX7_copy 69 = .ok (.ireturn, 1) := by decide +kernel
theorem dX7_copy_70 : decode cX7_copy 70 = .ok (.iload 5, 2) := by decide +kernel
theorem dX7_copy_72 : decode cX7_copy 72 = .ok (.ifCond .lt 39, 3) := by decide +kernel
theorem dX7_copy_75 : decode cX7_copy 75 = .ok (.iload_n 2, 1) := by decide +kernel
theorem dX7_copy_76 : decode cX7_copy 76 = .ok (.ifCond .lt 35, 3) := by decide +kernel
theorem dX7_copy_79 : decode cX7_copy 79 = .ok (.iload 4, 2) := by decide +kernel
theorem dX7_copy_81 : decode cX7_copy 81 = .ok (.ifCond .lt 30, 3) := by decide +kernel
theorem dX7_copy_84 : decode cX7_copy 84 = .ok (.iload 5, 2) := by decide +kernel
theorem dX7_copy_86 : decode cX7_copy 86 = .ok (.aload_n 0, 1) := by decide +kernel
theorem dX7_copy_87 : decode cX7_copy 87 = .ok (.getfield 37, 3) := by decide +kernel
theorem dX7_copy_90 : decode cX7_copy 90 = .ok (.iload_n 1, 1) := by decide +kernel
theorem dX7_copy_91 : decode cX7_copy 91 = .ok (.iaload, 1) := by decide +kernel
theorem dX7_copy_92 : decode cX7_copy 92 = .ok (.iload_n 2, 1) := by decide +kernel
theorem dX7_copy_93 : decode cX7_copy 93 = .ok (.isub, 1) := by decide +kernel
theorem dX7_copy_94 : decode cX7_copy 94 = .ok (.if_icmp .gt 17, 3) := by decide +kernel
theorem dX7_copy_97 : decode cX7_copy 97 = .ok (.iload 5, 2) := by decide +kernel
theorem dX7_copy_99 : decode cX7_copy 99 = .ok (.aload_n 0, 1) := by decide +kernel
theorem dX7_copy_100 : decode cX7_copy 100 = .ok (.getfield 37, 3) := by decide +kernel
theorem dX7_copy_103 : decode cX7_copy 103 = .ok (.iload_n 3, 1) := by decide +kernel
theorem dX7_copy_104 : decode cX7_copy 104 = .ok (.iaload, 1) := by decide +kernel
theorem dX7_copy_105 : decode cX7_copy 105 = .ok (.iload 4, 2) := by decide +kernel
theorem dX7_copy_107 : decode cX7_copy 107 = .ok (.isub, 1) := by decide +kernel
theorem dX7_copy_108 : decode cX7_copy 108 = .ok (.if_icmp .le 10, 3) := by decide +kernel
theorem dX7_copy_111 : decode cX7_copy 111 = .ok (.aload_n 0, 1) := by decide +kernel
theorem dX7_copy_112 : decode cX7_copy 112 = .ok (.ldc 43, 2) := by decide +kernel
theorem dX7_copy_114 : decode cX7_copy 114 = .ok (.invokevirtual 45, 3) := by decide +kernel
theorem dX7_copy_117 : decode cX7_copy 117 = .ok (.ireturn, 1) := by decide +kernel
theorem dX7_copy_118 : decode cX7_copy 118 = .ok (.iload_n 1, 1) := by decide +kernel
theorem dX7_copy_119 : decode cX7_copy 119 = .ok (.iload_n 3, 1) := by decide +kernel
theorem dX7_copy_120 : decode cX7_copy 120 = .ok (.if_icmp .ne 13, 3) := by decide +kernel
theorem dX7_copy_123 : decode cX7_copy 123 = .ok (.iload_n 2, 1) := by decide +kernel
theorem dX7_copy_124 : decode cX7_copy 124 = .ok (.iload 4, 2) := by decide +kernel
theorem dX7_copy_126 : decode cX7_copy 126 = .ok (.if_icmp .ge 7, 3) := by decide +kernel
theorem dX7_copy_129 : decode cX7_copy 129 = .ok (.iconst 1, 1) := by decide +kernel
theorem dX7_copy_130 : decode cX7_copy 130 = .ok (.goto 4, 3) := by decide +kernel
theorem dX7_copy_133 : decode cX7_copy 133 = .ok (.iconst 0, 1) := by decide +kernel
theorem dX7_copy_134 : decode cX7_copy 134 = .ok (.istore 6, 2) := by decide +kernel
theorem dX7_copy_136 : decode cX7_copy 136 = .ok (.iconst 0, 1) := by decide +kernel
theorem dX7_copy_137 : decode cX7_copy 137 = .ok (.istore 7, 2) := by decide +kernel
theorem dX7_copy_139 : decode cX7_copy 139 = .ok (.iload 7, 2) := by decide +kernel
theorem dX7_copy_141 : decode cX7_copy 141 = .ok (.iload 5, 2) := by decide +kernel
theorem dX7_copy_143 : decode cX7_copy 143 = .ok (.if_icmp .ge 57, 3) := by decide +kernel
theorem dX7_copy_146 : decode cX7_copy 146 = .ok (.iload 6, 2) := by decide +kernel
theorem dX7_copy_148 : decode cX7_copy 148 = .ok (.ifCond .eq 13, 3) := by decide +kernel
theorem dX7_copy_151 : decode cX7_copy 151 = .ok (.iload 5, 2) := by decide +kernel
theorem dX7_copy_153 : decode cX7_copy 153 = .ok (.iconst 1, 1) := by decide +kernel
theorem dX7_copy_154 : decode cX7_copy 154 = .ok (.isub, 1) := by decide +kernel
theorem dX7_copy_155 : decode cX7_copy 155 = .ok (.iload 7, 2) := by decide +kernel
theorem dX7_copy_157 : decode cX7_copy 157 = .ok (.isub, 1) := by decide +kernel
theorem dX7_copy_158 : decode cX7_copy 158 = .ok (.goto 5, 3) := by decide +kernel
theorem dX7_copy_161 : decode cX7_copy 161 = .ok (.iload 7, 2) := by decide +kernel
theorem dX7_copy_163 : decode cX7_copy 163 = .ok (.istore 8, 2) := by decide +kernel
theorem dX7_copy_165 : decode cX7_copy 165 = .ok (.aload_n 0, 1) := by decide +kernel
theorem dX7_copy_166 : decode cX7_copy 166 = .ok (.getfield 40, 3) := by decide +kernel
theorem dX7_copy_169 : decode cX7_copy 169 = .ok (.bipush 40, 2) := by decide +kernel
theorem dX7_copy_171 : decode cX7_copy 171 = .ok (.iload_n 3, 1) := by decide +kernel
theorem dX7_copy_172 : decode cX7_copy 172 = .ok (.imul, 1) := by decide +kernel
theorem dX7_copy_173 : decode cX7_copy 173 = .ok (.iload 4, 2) := by decide +kernel
theorem dX7_copy_175 : decode cX7_copy 175 = .ok (.iadd, 1) := by decide +kernel
theorem dX7_copy_176 : decode cX7_copy 176 = .ok (.iload 8, 2) := by decide +kernel
theorem dX7_copy_178 : decode cX7_copy 178 = .ok (.iadd, 1) := by decide +kernel
theorem dX7_copy_179 : decode cX7_copy 179 = .ok (.aload_n 0, 1) := by decide +kernel
theorem dX7_copy_180 : decode cX7_copy 180 = .ok (.getfield 40, 3) := by decide +kernel
theorem dX7_copy_183 : decode cX7_copy 183 = .ok (.bipush 40, 2) := by decide +kernel
theorem dX7_copy_185 : decode cX7_copy 185 = .ok (.iload_n 1, 1) := by decide +kernel
theorem dX7_copy_186 : decode cX7_copy 186 = .ok (.imul, 1) := by decide +kernel
theorem dX7_copy_187 : decode cX7_copy 187 = .ok (.iload_n 2, 1) := by decide +kernel
theorem dX7_copy_188 : decode cX7_copy 188 = .ok (.iadd, 1) := by decide +kernel
theorem dX7_copy_189 : decode cX7_copy 189 = .ok (.iload 8, 2) := by decide +kernel
theorem dX7_copy_191 : decode cX7_copy 191 = .ok (.iadd, 1) := by decide +kernel
theorem dX7_copy_192 : decode cX7_copy 192 = .ok (.iaload, 1) := by decide +kernel
theorem dX7_copy_193 : decode cX7_copy 193 = .ok (.iastore, 1) := by decide +kernel
theorem dX7_copy_194 : decode cX7_copy 194 = .ok (.iinc 7 1, 3) := by decide +kernel
theorem dX7_copy_197 : decode cX7_copy 197 = .ok (.goto (-58), 3) := by decide +kernel
theorem dX7_copy_200 : decode cX7_copy 200 = .ok (.iload 5, 2) := by decide +kernel
theorem dX7_copy_202 : decode cX7_copy 202 = .ok (.ireturn, 1) := by decide +kernel
theorem dX7_load_0 : decode cX7_load 0 = .ok (.iload_n 1, 1) := by decide +kernel
theorem dX7_load_1 : decode cX7_load 1 = .ok (.invokestatic 331, 3) := by decide +kernel
theorem dX7_load_4 : decode cX7_load 4 = .ok (.ifCond .ne 10, 3) := by decide +kernel
theorem dX7_load_7 : decode cX7_load 7 = .ok (.aload_n 0, 1) := by decide +kernel
theorem dX7_load_8 : decode cX7_load 8 = .ok (.ldc 43, 2) := by decide +kernel
theorem dX7_load_10 : decode cX7_load 10 = .ok (.invokevirtual 45, 3) := by decide +kernel
theorem dX7_load_13 : decode cX7_load 13 = .ok (.ireturn, 1) := by decide +kernel
theorem dX7_load_14 : decode cX7_load 14 = .ok (.aload_n 0, 1) := by decide +kernel
theorem dX7_load_15 : decode cX7_load 15 = .ok (.getfield 34, 3) := by decide +kernel
theorem dX7_load_18 : decode cX7_load 18 = .ok (.iload_n 1, 1) := by decide +kernel
theorem dX7_load_19 : decode cX7_load 19 = .ok (.iaload, 1) := by decide +kernel
theorem dX7_load_20 : decode cX7_load 20 = .ok (.ifCond .ne 11, 3) := by decide +kernel
theorem dX7_load_23 : decode cX7_load 23 = .ok (.aload_n 0, 1) := by decide +kernel
theorem dX7_load_24 : decode cX7_load 24 = .ok (.ldc_w 326, 3) := by decide +kernel
theorem dX7_load_27 : decode cX7_load 27 = .ok (.invokevirtual 45, 3) := by decide +kernel
theorem dX7_load_30 : decode cX7_load 30 = .ok (.ireturn, 1) := by decide +kernel
theorem dX7_load_31 : decode cX7_load 31 = .ok (.iconst 0, 1) := by decide +kernel
theorem dX7_load_32 : decode cX7_load 32 = .ok (.istore_n 2, 1) := by decide +kernel
theorem dX7_load_33 : decode cX7_load 33 = .ok (.iload_n 2, 1) := by decide +kernel
theorem dX7_load_34 : decode cX7_load 34 = .ok (.aload_n 0, 1) := by decide +kernel
theorem dX7_load_35 : decode cX7_load 35 = .ok (.getfield 37, 3) := by decide +kernel
theorem dX7_load_38 : decode cX7_load 38 = .ok (.iload_n 1, 1) := by decide +kernel
theorem dX7_load_39 : decode cX7_load 39 = .ok (.iaload, 1) := by decide +kernel
theorem dX7_load_40 : decode cX7_load 40 = .ok (.if_icmp .ge 50, 3) := by decide +kernel
theorem dX7_load_43 : decode cX7_load 43 = .ok (.aload_n 0, 1) := by decide +kernel
theorem dX7_load_44 : decode cX7_load 44 = .ok (.iload_n 2, 1) := by decide +kernel
theorem dX7_load_45 : decode cX7_load 45 = .ok (.aload_n 0, 1) := by decide +kernel
theorem dX7_load_46 : decode cX7_load 46 = .ok (.getfield 40, 3) := by decide +kernel
theorem dX7_load_49 : decode cX7_load 49 = .ok (.bipush 40, 2) := by decide +kernel
theorem dX7_load_51 : decode cX7_load 51 = .ok (.iload_n 1, 1) := by decide +kernel
theorem dX7_load_52 : decode cX7_load 52 = .ok (.imul, 1) := by decide +kernel
theorem dX7_load_53 : decode cX7_load 53 = .ok (.iload_n 2, 1) := by decide +kernel
theorem dX7_load_54 : decode cX7_load 54 = .ok (.iadd, 1) := by decide +kernel
theorem dX7_load_55 : decode cX7_load 55 = .ok (.iaload, 1) := by decide +kernel
theorem dX7_load_56 : decode cX7_load 56 = .ok (.invokevirtual 131, 3) := by decide +kernel
theorem dX7_load_59 : decode cX7_load 59 = .ok (.ifCond .ne 31, 3) := by decide +kernel
theorem dX7_load_62 : decode cX7_load 62 = .ok (.aload_n 0, 1) := by decide +kernel
theorem dX7_load_63 : decode cX7_load 63 = .ok (.getfield 9, 3) := by decide +kernel
theorem dX7_load_66 : decode cX7_load 66 = .ok (.bipush 100, 2) := by decide +kernel
theorem dX7_load_68 : decode cX7_load 68 = .ok (.iconst 4, 1) := by decide +kernel
theorem dX7_load_69 : decode cX7_load 69 = .ok (.iload_n 2, 1) := by decide +kernel
theorem dX7_load_70 : decode cX7_load 70 = .ok (.imul, 1) := by decide +kernel
theorem dX7_load_71 : decode cX7_load 71 = .ok (.iadd, 1) := by decide +kernel
theorem dX7_load_72 : decode cX7_load 72 = .ok (.aload_n 0, 1) := by decide +kernel
theorem dX7_load_73 : decode cX7_load 73 = .ok (.getfield 40, 3) := by decide +kernel
theorem dX7_load_76 : decode cX7_load 76 = .ok (.bipush 40, 2) := by decide +kernel
theorem dX7_load_78 : decode cX7_load 78 = .ok (.iload_n 1, 1) := by decide +kernel
theorem dX7_load_79 : decode cX7_load 79 = .ok (.imul, 1) := by decide +kernel
theorem dX7_load_80 : decode cX7_load 80 = .ok (.iload_n 2, 1) := by decide +kernel
theorem dX7_load_81 : decode cX7_load 81 = .ok (.iadd, 1) := by decide +kernel
theorem dX7_load_82 : decode cX7_load 82 = .ok (.iaload, 1) := by decide +kernel
theorem dX7_load_83 : decode cX7_load 83 = .ok (.iastore, 1) := by decide +kernel
theorem dX7_load_84 : decode cX7_load 84 = .ok (.iinc 2 1, 3) := by decide +kernel
theorem dX7_load_87 : decode cX7_load 87 = .ok (.goto (-54), 3) := by decide +kernel
theorem dX7_load_90 : decode cX7_load 90 = .ok (.iload_n 2, 1) := by decide +kernel
theorem dX7_load_91 : decode cX7_load 91 = .ok (.ireturn, 1) := by decide +kernel
theorem dX7_judge_0 : decode cX7_judge 0 = .ok (.iload_n 1, 1) := by decide +kernel
theorem dX7_judge_1 : decode cX7_judge 1 = .ok (.invokestatic 331, 3) := by decide +kernel
theorem dX7_judge_4 : decode cX7_judge 4 = .ok (.ifCond .ne 10, 3) := by decide +kernel
theorem dX7_judge_7 : decode cX7_judge 7 = .ok (.aload_n 0, 1) := by decide +kernel
theorem dX7_judge_8 : decode cX7_judge 8 = .ok (.ldc 43, 2) := by decide +kernel
theorem dX7_judge_10 : decode cX7_judge 10 = .ok (.invokevirtual 45, 3) := by decide +kernel
theorem dX7_judge_13 : decode cX7_judge 13 = .ok (.ireturn, 1) := by decide +kernel
theorem dX7_judge_14 : decode cX7_judge 14 = .ok (.aload_n 0, 1) := by decide +kernel
theorem dX7_judge_15 : decode cX7_judge 15 = .ok (.getfield 34, 3) := by decide +kernel
theorem dX7_judge_18 : decode cX7_judge 18 = .ok (.iload_n 1, 1) := by decide +kernel
theorem dX7_judge_19 : decode cX7_judge 19 = .ok (.iaload, 1) := by decide +kernel
theorem dX7_judge_20 : decode cX7_judge 20 = .ok (.ifCond .ne 11, 3) := by decide +kernel
theorem dX7_judge_23 : decode cX7_judge 23 = .ok (.aload_n 0, 1) := by decide +kernel
theorem dX7_judge_24 : decode cX7_judge 24 = .ok (.ldc_w 326, 3) := by decide +kernel
theorem dX7_judge_27 : decode cX7_judge 27 = .ok (.invokevirtual 45, 3) := by decide +kernel
theorem dX7_judge_30 : decode cX7_judge 30 = .ok (.ireturn, 1) := by decide +kernel
theorem dX7_judge_31 : decode cX7_judge 31 = .ok (.iload_n 2, 1) := by decide +kernel
theorem dX7_judge_32 : decode cX7_judge 32 = .ok (.i2l, 1) := by decide +kernel
theorem dX7_judge_33 : decode cX7_judge 33 = .ok (.lconst 0, 1) := by decide +kernel
theorem dX7_judge_34 : decode cX7_judge 34 = .ok (.ldc2_w 170, 3) := by decide +kernel
theorem dX7_judge_37 : decode cX7_judge 37 = .ok (.invokestatic 51, 3) := by decide +kernel
theorem dX7_judge_40 : decode cX7_judge 40 = .ok (.ifCond .ne 10, 3) := by decide +kernel
theorem dX7_judge_43 : decode cX7_judge 43 = .ok (.aload_n 0, 1) := by decide +kernel
theorem dX7_judge_44 : decode cX7_judge 44 = .ok (.ldc 43, 2) := by decide +kernel
theorem dX7_judge_46 : decode cX7_judge 46 = .ok (.invokevirtual 45, 3) := by decide +kernel
theorem dX7_judge_49 : decode cX7_judge 49 = .ok (.ireturn, 1) := by decide +kernel
theorem dX7_judge_50 : decode cX7_judge 50 = .ok (.aload_n 0, 1) := by decide +kernel
theorem dX7_judge_51 : decode cX7_judge 51 = .ok (.iload_n 2, 1) := by decide +kernel
theorem dX7_judge_52 : decode cX7_judge 52 = .ok (.invokevirtual 172, 3) := by decide +kernel
theorem dX7_judge_55 : decode cX7_judge 55 = .ok (.ifCond .eq 10, 3) := by decide +kernel
theorem dX7_judge_58 : decode cX7_judge 58 = .ok (.aload_n 0, 1) := by decide +kernel
theorem dX7_judge_59 : decode cX7_judge 59 = .ok (.ldc 130, 2) := by decide +kernel
theorem dX7_judge_61 : decode cX7_judge 61 = .ok (.invokevirtual 45, 3) := by decide +kernel
theorem dX7_judge_64 : decode cX7_judge 64 = .ok (.ireturn, 1) := by decide +kernel
theorem dX7_judge_65 : decode cX7_judge 65 = .ok (.aload_n 0, 1) := by decide +kernel
theorem dX7_judge_66 : decode cX7_judge 66 = .ok (.getfield 9, 3) := by decide +kernel
theorem dX7_judge_69 : decode cX7_judge 69 = .ok (.aload_n 0, 1) := by decide +kernel
theorem dX7_judge_70 : decode cX7_judge 70 = .ok (.getfield 16, 3) := by decide +kernel
theorem dX7_judge_73 : decode cX7_judge 73 = .ok (.invokestatic 185, 3) := by decide +kernel
theorem dX7_judge_76 : decode cX7_judge 76 = .ok (.aload_n 0, 1) := by decide +kernel
theorem dX7_judge_77 : decode cX7_judge 77 = .ok (.iload_n 2, 1) := by decide +kernel
theorem dX7_judge_78 : decode cX7_judge 78 = .ok (.invokevirtual 178, 3) := by decide +kernel
theorem dX7_judge_81 : decode cX7_judge 81 = .ok (.iconst 0, 1) := by decide +kernel
theorem dX7_judge_82 : decode cX7_judge 82 = .ok (.istore_n 3, 1) := by decide +kernel
theorem dX7_judge_83 : decode cX7_judge 83 = .ok (.iload_n 3, 1) := by decide +kernel
theorem dX7_judge_84 : decode cX7_judge 84 = .ok (.aload_n 0, 1) := by decide +kernel
theorem dX7_judge_85 : decode cX7_judge 85 = .ok (.getfield 37, 3) := by decide +kernel
theorem dX7_judge_88 : decode cX7_judge 88 = .ok (.iload_n 1, 1) := by decide +kernel
theorem dX7_judge_89 : decode cX7_judge 89 = .ok (.iaload, 1) := by decide +kernel
theorem dX7_judge_90 : decode cX7_judge 90 = .ok (.if_icmp .ge 39, 3) := by decide +kernel
theorem dX7_judge_93 : decode cX7_judge 93 = .ok (.iload_n 3, 1) := by decide +kernel
theorem dX7_judge_94 : decode cX7_judge 94 = .ok (.aload_n 0, 1) := by decide +kernel
theorem dX7_judge_95 : decode cX7_judge 95 = .ok (.getfield 9, 3) := by decide +kernel
theorem dX7_judge_98 : decode cX7_judge 98 = .ok (.iconst 2, 1) := by decide +kernel
theorem dX7_judge_99 : decode cX7_judge 99 = .ok (.iaload, 1) := by decide +kernel
theorem dX7_judge_100 : decode cX7_judge 100 = .ok (.if_icmp .ge 29, 3) := by decide +kernel
theorem dX7_judge_103 : decode cX7_judge 103 = .ok (.aload_n 0, 1) := by decide +kernel
theorem dX7_judge_104 : decode cX7_judge 104 = .ok (.getfield 40, 3) := by decide +kernel
theorem dX7_judge_107 : decode cX7_judge 107 = .ok (.bipush 40, 2) := by decide +kernel
theorem dX7_judge_109 : decode cX7_judge 109 = .ok (.iload_n 1, 1) := by decide +kernel
theorem dX7_judge_110 : decode cX7_judge 110 = .ok (.imul, 1) := by decide +kernel
theorem dX7_judge_111 : decode cX7_judge 111 = .ok (.iload_n 3, 1) := by decide +kernel
theorem dX7_judge_112 : decode cX7_judge 112 = .ok (.iadd, 1) := by decide +kernel
theorem dX7_judge_113 : decode cX7_judge 113 = .ok (.iaload, 1) := by decide +kernel
theorem dX7_judge_114 : decode cX7_judge 114 = .ok (.aload_n 0, 1) := by decide +kernel
theorem dX7_judge_115 : decode cX7_judge 115 = .ok (.iload_n 3, 1) := by decide +kernel
theorem dX7_judge_116 : decode cX7_judge 116 = .ok (.iconst 2, 1) := by decide +kernel
theorem dX7_judge_117 : decode cX7_judge 117 = .ok (.invokevirtual 59, 3) := by decide +kernel
theorem dX7_judge_120 : decode cX7_judge 120 = .ok (.if_icmp .ne 9, 3) := by decide +kernel
theorem dX7_judge_123 : decode cX7_judge 123 = .ok (.iinc 3 1, 3) := by decide +kernel
theorem dX7_judge_126 : decode cX7_judge 126 = .ok (.goto (-43), 3) := by decide +kernel
theorem dX7_judge_129 : decode cX7_judge 129 = .ok (.iload_n 3, 1) := by decide +kernel
theorem dX7_judge_130 : decode cX7_judge 130 = .ok (.aload_n 0, 1) := by decide +kernel
theorem dX7_judge_131 : decode cX7_judge 131 = .ok (.getfield 37, 3) := by decide +kernel
theorem dX7_judge_134 : decode cX7_judge 134 = .ok (.iload_n 1, 1) := by decide +kernel
theorem dX7_judge_135 : decode cX7_judge 135 = .ok (.iaload, 1) := by decide +kernel
theorem dX7_judge_136 : decode cX7_judge 136 = .ok (.if_icmp .ne 17, 3) := by decide +kernel
theorem dX7_judge_139 : decode cX7_judge 139 = .ok (.iload_n 3, 1) := by decide +kernel
theorem dX7_judge_140 : decode cX7_judge 140 = .ok (.aload_n 0, 1) := by decide +kernel
theorem dX7_judge_141 : decode cX7_judge 141 = .ok (.getfield 9, 3) := by decide +kernel
theorem dX7_judge_144 : decode cX7_judge 144 = .ok (.iconst 2, 1) := by decide +kernel
theorem dX7_judge_145 : decode cX7_judge 145 = .ok (.iaload, 1) := by decide +kernel
theorem dX7_judge_146 : decode cX7_judge 146 = .ok (.if_icmp .ne 7, 3) := by decide +kernel
theorem dX7_judge_149 : decode cX7_judge 149 = .ok (.iconst 1, 1) := by decide +kernel
theorem dX7_judge_150 : decode cX7_judge 150 = .ok (.goto 4, 3) := by decide +kernel
theorem dX7_judge_153 : decode cX7_judge 153 = .ok (.iconst 0, 1) := by decide +kernel
theorem dX7_judge_154 : decode cX7_judge 154 = .ok (.istore 4, 2) := by decide +kernel
theorem dX7_judge_156 : decode cX7_judge 156 = .ok (.aload_n 0, 1) := by decide +kernel
theorem dX7_judge_157 : decode cX7_judge 157 = .ok (.getfield 16, 3) := by decide +kernel
theorem dX7_judge_160 : decode cX7_judge 160 = .ok (.aload_n 0, 1) := by decide +kernel
theorem dX7_judge_161 : decode cX7_judge 161 = .ok (.getfield 9, 3) := by decide +kernel
theorem dX7_judge_164 : decode cX7_judge 164 = .ok (.invokestatic 185, 3) := by decide +kernel
theorem dX7_judge_167 : decode cX7_judge 167 = .ok (.iload 4, 2) := by decide +kernel
theorem dX7_judge_169 : decode cX7_judge 169 = .ok (.ifCond .eq 7, 3) := by decide +kernel
theorem dX7_judge_172 : decode cX7_judge 172 = .ok (.iconst 0, 1) := by decide +kernel
theorem dX7_judge_173 : decode cX7_judge 173 = .ok (.goto 6, 3) := by decide +kernel
theorem dX7_judge_176 : decode cX7_judge 176 = .ok (.iconst 1, 1) := by decide +kernel
theorem dX7_judge_177 : decode cX7_judge 177 = .ok (.iload_n 3, 1) := by decide +kernel
theorem dX7_judge_178 : decode cX7_judge 178 = .ok (.iadd, 1) := by decide +kernel
theorem dX7_judge_179 : decode cX7_judge 179 = .ok (.ireturn, 1) := by decide +kernel
theorem dX7_image_0 : decode cX7_image 0 = .ok (.aload_n 0, 1) := by decide +kernel
theorem dX7_image_1 : decode cX7_image 1 = .ok (.getfield 9, 3) := by decide +kernel
theorem dX7_image_4 : decode cX7_image 4 = .ok (.aload_n 0, 1) := by decide +kernel
theorem dX7_image_5 : decode cX7_image 5 = .ok (.getfield 13, 3) := by decide +kernel
theorem dX7_image_8 : decode cX7_image 8 = .ok (.invokestatic 185, 3) := by decide +kernel
theorem dX7_image_11 : decode cX7_image 11 = .ok (.aload_n 0, 1) := by decide +kernel
theorem dX7_image_12 : decode cX7_image 12 = .ok (.iconst 1, 1) := by decide +kernel
theorem dX7_image_13 : decode cX7_image 13 = .ok (.putfield 334, 3) := by decide +kernel
theorem dX7_image_16 : decode cX7_image 16 = .ok (.iconst 1, 1) := by decide +kernel
theorem dX7_image_17 : decode cX7_image 17 = .ok (.ireturn, 1) := by decide +kernel
theorem dX7_undo_0 : decode cX7_undo 0 = .ok (.aload_n 0, 1) := by decide +kernel
theorem dX7_undo_1 : decode cX7_undo 1 = .ok (.getfield 334, 3) := by decide +kernel
theorem dX7_undo_4 : decode cX7_undo 4 = .ok (.ifCond .ne 10, 3) := by decide +kernel
theorem dX7_undo_7 : decode cX7_undo 7 = .ok (.aload_n 0, 1) := by decide +kernel
theorem dX7_undo_8 : decode cX7_undo 8 = .ok (.ldc 44, 2) := by decide +kernel
theorem dX7_undo_10 : decode cX7_undo 10 = .ok (.invokevirtual 45, 3) := by decide +kernel
theorem dX7_undo_13 : decode cX7_undo 13 = .ok (.ireturn, 1) := by decide +kernel
theorem dX7_undo_14 : decode cX7_undo 14 = .ok (.aload_n 0, 1) := by decide +kernel
theorem dX7_undo_15 : decode cX7_undo 15 = .ok (.getfield 13, 3) := by decide +kernel
theorem dX7_undo_18 : decode cX7_undo 18 = .ok (.aload_n 0, 1) := by decide +kernel
theorem dX7_undo_19 : decode cX7_undo 19 = .ok (.getfield 9, 3) := by decide +kernel
theorem dX7_undo_22 : decode cX7_undo 22 = .ok (.invokestatic 185, 3) := by decide +kernel
theorem dX7_undo_25 : decode cX7_undo 25 = .ok (.aload_n 0, 1) := by decide +kernel
theorem dX7_undo_26 : decode cX7_undo 26 = .ok (.getfield 9, 3) := by decide +kernel
theorem dX7_undo_29 : decode cX7_undo 29 = .ok (.iconst 0, 1) := by decide +kernel
theorem dX7_undo_30 : decode cX7_undo 30 = .ok (.iaload, 1) := by decide +kernel
theorem dX7_undo_31 : decode cX7_undo 31 = .ok (.ireturn, 1) := by decide +kernel
theorem dX7_tear_0 : decode cX7_tear 0 = .ok (.aload_n 0, 1) := by decide +kernel
theorem dX7_tear_1 : decode cX7_tear 1 = .ok (.getfield 334, 3) := by decide +kernel
theorem dX7_tear_4 : decode cX7_tear 4 = .ok (.ifCond .eq 7, 3) := by decide +kernel
theorem dX7_tear_7 : decode cX7_tear 7 = .ok (.iconst 1, 1) := by decide +kernel
theorem dX7_tear_8 : decode cX7_tear 8 = .ok (.goto 4, 3) := by decide +kernel
theorem dX7_tear_11 : decode cX7_tear 11 = .ok (.iconst 0, 1) := by decide +kernel
theorem dX7_tear_12 : decode cX7_tear 12 = .ok (.istore_n 1, 1) := by decide +kernel
theorem dX7_tear_13 : decode cX7_tear 13 = .ok (.aload_n 0, 1) := by decide +kernel
theorem dX7_tear_14 : decode cX7_tear 14 = .ok (.iconst 0, 1) := by decide +kernel
theorem dX7_tear_15 : decode cX7_tear 15 = .ok (.putfield 334, 3) := by decide +kernel
theorem dX7_tear_18 : decode cX7_tear 18 = .ok (.iload_n 1, 1) := by decide +kernel
theorem dX7_tear_19 : decode cX7_tear 19 = .ok (.ireturn, 1) := by decide +kernel
theorem dX7_count_0 : decode cX7_count 0 = .ok (.iload_n 1, 1) := by decide +kernel
theorem dX7_count_1 : decode cX7_count 1 = .ok (.tableswitch 95 0 7 #[47, 54, 61, 66, 73, 78, 83, 88], 47) := by decide +kernel
theorem dX7_count_48 : decode cX7_count 48 = .ok (.aload_n 0, 1) := by decide +kernel
theorem dX7_count_49 : decode cX7_count 49 = .ok (.getfield 9, 3) := by decide +kernel
theorem dX7_count_52 : decode cX7_count 52 = .ok (.iconst 0, 1) := by decide +kernel
theorem dX7_count_53 : decode cX7_count 53 = .ok (.iaload, 1) := by decide +kernel
theorem dX7_count_54 : decode cX7_count 54 = .ok (.ireturn, 1) := by decide +kernel
theorem dX7_count_55 : decode cX7_count 55 = .ok (.aload_n 0, 1) := by decide +kernel
theorem dX7_count_56 : decode cX7_count 56 = .ok (.getfield 9, 3) := by decide +kernel
theorem dX7_count_59 : decode cX7_count 59 = .ok (.iconst 2, 1) := by decide +kernel
theorem dX7_count_60 : decode cX7_count 60 = .ok (.iaload, 1) := by decide +kernel
theorem dX7_count_61 : decode cX7_count 61 = .ok (.ireturn, 1) := by decide +kernel
theorem dX7_count_62 : decode cX7_count 62 = .ok (.aload_n 0, 1) := by decide +kernel
theorem dX7_count_63 : decode cX7_count 63 = .ok (.invokevirtual 164, 3) := by decide +kernel
theorem dX7_count_66 : decode cX7_count 66 = .ok (.ireturn, 1) := by decide +kernel
theorem dX7_count_67 : decode cX7_count 67 = .ok (.aload_n 0, 1) := by decide +kernel
theorem dX7_count_68 : decode cX7_count 68 = .ok (.getfield 9, 3) := by decide +kernel
theorem dX7_count_71 : decode cX7_count 71 = .ok (.iconst 3, 1) := by decide +kernel
theorem dX7_count_72 : decode cX7_count 72 = .ok (.iaload, 1) := by decide +kernel
theorem dX7_count_73 : decode cX7_count 73 = .ok (.ireturn, 1) := by decide +kernel
theorem dX7_count_74 : decode cX7_count 74 = .ok (.aload_n 0, 1) := by decide +kernel
theorem dX7_count_75 : decode cX7_count 75 = .ok (.invokevirtual 195, 3) := by decide +kernel
theorem dX7_count_78 : decode cX7_count 78 = .ok (.ireturn, 1) := by decide +kernel
theorem dX7_count_79 : decode cX7_count 79 = .ok (.aload_n 0, 1) := by decide +kernel
theorem dX7_count_80 : decode cX7_count 80 = .ok (.invokevirtual 189, 3) := by decide +kernel
theorem dX7_count_83 : decode cX7_count 83 = .ok (.ireturn, 1) := by decide +kernel
theorem dX7_count_84 : decode cX7_count 84 = .ok (.aload_n 0, 1) := by decide +kernel
theorem dX7_count_85 : decode cX7_count 85 = .ok (.getfield 229, 3) := by decide +kernel
theorem dX7_count_88 : decode cX7_count 88 = .ok (.ireturn, 1) := by decide +kernel
theorem dX7_count_89 : decode cX7_count 89 = .ok (.aload_n 0, 1) := by decide +kernel
theorem dX7_count_90 : decode cX7_count 90 = .ok (.getfield 9, 3) := by decide +kernel
theorem dX7_count_93 : decode cX7_count 93 = .ok (.iconst 1, 1) := by decide +kernel
theorem dX7_count_94 : decode cX7_count 94 = .ok (.iaload, 1) := by decide +kernel
theorem dX7_count_95 : decode cX7_count 95 = .ok (.ireturn, 1) := by decide +kernel
theorem dX7_count_96 : decode cX7_count 96 = .ok (.aload_n 0, 1) := by decide +kernel
theorem dX7_count_97 : decode cX7_count 97 = .ok (.ldc 43, 2) := by decide +kernel
theorem dX7_count_99 : decode cX7_count 99 = .ok (.invokevirtual 45, 3) := by decide +kernel
theorem dX7_count_102 : decode cX7_count 102 = .ok (.ireturn, 1) := by decide +kernel
end
section
theorem dX7_status_0 : decode cX7_status 0 = .ok (.iload_n 1, 1) := by decide +kernel
theorem dX7_status_1 : decode cX7_status 1 = .ok (.i2l, 1) := by decide +kernel
theorem dX7_status_2 : decode cX7_status 2 = .ok (.ldc2_w 337, 3) := by decide +kernel
theorem dX7_status_5 : decode cX7_status 5 = .ok (.ldc2_w 55, 3) := by decide +kernel
theorem dX7_status_8 : decode cX7_status 8 = .ok (.invokestatic 51, 3) := by decide +kernel
theorem dX7_status_11 : decode cX7_status 11 = .ok (.ifCond .ne 10, 3) := by decide +kernel
theorem dX7_status_14 : decode cX7_status 14 = .ok (.aload_n 0, 1) := by decide +kernel
theorem dX7_status_15 : decode cX7_status 15 = .ok (.ldc 43, 2) := by decide +kernel
theorem dX7_status_17 : decode cX7_status 17 = .ok (.invokevirtual 45, 3) := by decide +kernel
theorem dX7_status_20 : decode cX7_status 20 = .ok (.ireturn, 1) := by decide +kernel
theorem dX7_status_21 : decode cX7_status 21 = .ok (.iconst 0, 1) := by decide +kernel
theorem dX7_status_22 : decode cX7_status 22 = .ok (.istore_n 2, 1) := by decide +kernel
theorem dX7_status_23 : decode cX7_status 23 = .ok (.iconst 0, 1) := by decide +kernel
theorem dX7_status_24 : decode cX7_status 24 = .ok (.istore_n 3, 1) := by decide +kernel
theorem dX7_status_25 : decode cX7_status 25 = .ok (.iload_n 3, 1) := by decide +kernel
theorem dX7_status_26 : decode cX7_status 26 = .ok (.bipush 7, 2) := by decide +kernel
theorem dX7_status_28 : decode cX7_status 28 = .ok (.if_icmp .ge 31, 3) := by decide +kernel
theorem dX7_status_31 : decode cX7_status 31 = .ok (.iload_n 2, 1) := by decide +kernel
theorem dX7_status_32 : decode cX7_status 32 = .ok (.iload_n 1, 1) := by decide +kernel
theorem dX7_status_33 : decode cX7_status 33 = .ok (.ifCond .lt 8, 3) := by decide +kernel
theorem dX7_status_36 : decode cX7_status 36 = .ok (.iload_n 1, 1) := by decide +kernel
theorem dX7_status_37 : decode cX7_status 37 = .ok (.iload_n 3, 1) := by decide +kernel
theorem dX7_status_38 : decode cX7_status 38 = .ok (.if_icmp .ne 12, 3) := by decide +kernel
theorem dX7_status_41 : decode cX7_status 41 = .ok (.aload_n 0, 1) := by decide +kernel
theorem dX7_status_42 : decode cX7_status 42 = .ok (.getfield 22, 3) := by decide +kernel
theorem dX7_status_45 : decode cX7_status 45 = .ok (.iload_n 3, 1) := by decide +kernel
theorem dX7_status_46 : decode cX7_status 46 = .ok (.iaload, 1) := by decide +kernel
theorem dX7_status_47 : decode cX7_status 47 = .ok (.goto 4, 3) := by decide +kernel
theorem dX7_status_50 : decode cX7_status 50 = .ok (.iconst 0, 1) := by decide +kernel
theorem dX7_status_51 : decode cX7_status 51 = .ok (.iadd, 1) := by decide +kernel
theorem dX7_status_52 : decode cX7_status 52 = .ok (.istore_n 2, 1) := by decide +kernel
theorem dX7_status_53 : decode cX7_status 53 = .ok (.iinc 3 1, 3) := by decide +kernel
theorem dX7_status_56 : decode cX7_status 56 = .ok (.goto (-31), 3) := by decide +kernel
theorem dX7_status_59 : decode cX7_status 59 = .ok (.iload_n 2, 1) := by decide +kernel
theorem dX7_status_60 : decode cX7_status 60 = .ok (.ireturn, 1) := by decide +kernel
theorem dJ9_max_7cf53_0 : decode cJ9_max_7cf53 0 = .ok (.iload_n 0, 1) := by decide +kernel
theorem dJ9_max_7cf53_1 : decode cJ9_max_7cf53 1 = .ok (.iload_n 1, 1) := by decide +kernel
theorem dJ9_max_7cf53_2 : decode cJ9_max_7cf53 2 = .ok (.if_icmp .lt 7, 3) := by decide +kernel
theorem dJ9_max_7cf53_5 : decode cJ9_max_7cf53 5 = .ok (.iload_n 0, 1) := by decide +kernel
theorem dJ9_max_7cf53_6 : decode cJ9_max_7cf53 6 = .ok (.goto 4, 3) := by decide +kernel
theorem dJ9_max_7cf53_9 : decode cJ9_max_7cf53 9 = .ok (.iload_n 1, 1) := by decide +kernel
theorem dJ9_max_7cf53_10 : decode cJ9_max_7cf53 10 = .ok (.ireturn, 1) := by decide +kernel
theorem dJ9_min_7cf53_0 : decode cJ9_min_7cf53 0 = .ok (.iload_n 0, 1) := by decide +kernel
theorem dJ9_min_7cf53_1 : decode cJ9_min_7cf53 1 = .ok (.iload_n 1, 1) := by decide +kernel
theorem dJ9_min_7cf53_2 : decode cJ9_min_7cf53 2 = .ok (.if_icmp .gt 7, 3) := by decide +kernel
theorem dJ9_min_7cf53_5 : decode cJ9_min_7cf53 5 = .ok (.iload_n 0, 1) := by decide +kernel
theorem dJ9_min_7cf53_6 : decode cJ9_min_7cf53 6 = .ok (.goto 4, 3) := by decide +kernel
theorem dJ9_min_7cf53_9 : decode cJ9_min_7cf53 9 = .ok (.iload_n 1, 1) := by decide +kernel
theorem dJ9_min_7cf53_10 : decode cJ9_min_7cf53 10 = .ok (.ireturn, 1) := by decide +kernel
theorem dJ0_length_8abf5_0 : decode cJ0_length_8abf5 0 = .ok (.aload_n 0, 1) := by decide +kernel
theorem dJ0_length_8abf5_1 : decode cJ0_length_8abf5 1 = .ok (.getfield 9, 3) := by decide +kernel
theorem dJ0_length_8abf5_4 : decode cJ0_length_8abf5 4 = .ok (.arraylength, 1) := by decide +kernel
theorem dJ0_length_8abf5_5 : decode cJ0_length_8abf5 5 = .ok (.aload_n 0, 1) := by decide +kernel
theorem dJ0_length_8abf5_6 : decode cJ0_length_8abf5 6 = .ok (.invokevirtual 335, 3) := by decide +kernel
theorem dJ0_length_8abf5_9 : decode cJ0_length_8abf5 9 = .ok (.ishr, 1) := by decide +kernel
theorem dJ0_length_8abf5_10 : decode cJ0_length_8abf5 10 = .ok (.ireturn, 1) := by decide +kernel
theorem dJ0_charAt_5068e_0 : decode cJ0_charAt_5068e 0 = .ok (.aload_n 0, 1) := by decide +kernel
theorem dJ0_charAt_5068e_1 : decode cJ0_charAt_5068e 1 = .ok (.invokevirtual 492, 3) := by decide +kernel
theorem dJ0_charAt_5068e_4 : decode cJ0_charAt_5068e 4 = .ok (.ifCond .eq 12, 3) := by decide +kernel
theorem dJ0_charAt_5068e_7 : decode cJ0_charAt_5068e 7 = .ok (.aload_n 0, 1) := by decide +kernel
theorem dJ0_charAt_5068e_8 : decode cJ0_charAt_5068e 8 = .ok (.getfield 9, 3) := by decide +kernel
theorem dJ0_charAt_5068e_11 : decode cJ0_charAt_5068e 11 = .ok (.iload_n 1, 1) := by decide +kernel
theorem dJ0_charAt_5068e_12 : decode cJ0_charAt_5068e 12 = .ok (.invokestatic 495, 3) := by decide +kernel
theorem dJ0_charAt_5068e_15 : decode cJ0_charAt_5068e 15 = .ok (.ireturn, 1) := by decide +kernel
theorem dJ0_charAt_5068e_16 : decode cJ0_charAt_5068e 16 = .ok (.aload_n 0, 1) := by decide +kernel
theorem dJ0_charAt_5068e_17 : decode cJ0_charAt_5068e 17 = .ok (.getfield 9, 3) := by decide +kernel
theorem dJ0_charAt_5068e_20 : decode cJ0_charAt_5068e 20 = .ok (.iload_n 1, 1) := by decide +kernel
theorem dJ0_charAt_5068e_21 : decode cJ0_charAt_5068e 21 = .ok (.invokestatic 498, 3) := by decide +kernel
theorem dJ0_charAt_5068e_24 : decode cJ0_charAt_5068e 24 = .ok (.ireturn, 1) := by decide +kernel
theorem dJ0_coder_7d493_0 : decode cJ0_coder_7d493 0 = .ok (.getstatic 38, 3) := by decide +kernel
theorem dJ0_coder_7d493_3 : decode cJ0_coder_7d493 3 = .ok (.ifCond .eq 10, 3) := by decide +kernel
theorem dJ0_coder_7d493_6 : decode cJ0_coder_7d493 6 = .ok (.aload_n 0, 1) := by decide +kernel
theorem dJ0_coder_7d493_7 : decode cJ0_coder_7d493 7 = .ok (.getfield 15, 3) := by decide +kernel
theorem dJ0_coder_7d493_10 : decode cJ0_coder_7d493 10 = .ok (.goto 4, 3) := by decide +kernel
theorem dJ0_coder_7d493_13 : decode cJ0_coder_7d493 13 = .ok (.iconst 1, 1) := by decide +kernel
theorem dJ0_coder_7d493_14 : decode cJ0_coder_7d493 14 = .ok (.ireturn, 1) := by decide +kernel
theorem dJ0_isLatin1_aae02_0 : decode cJ0_isLatin1_aae02 0 = .ok (.getstatic 38, 3) := by decide +kernel
theorem dJ0_isLatin1_aae02_3 : decode cJ0_isLatin1_aae02 3 = .ok (.ifCond .eq 14, 3) := by decide +kernel
theorem dJ0_isLatin1_aae02_6 : decode cJ0_isLatin1_aae02 6 = .ok (.aload_n 0, 1) := by decide +kernel
theorem dJ0_isLatin1_aae02_7 : decode cJ0_isLatin1_aae02 7 = .ok (.getfield 15, 3) := by decide +kernel
theorem dJ0_isLatin1_aae02_10 : decode cJ0_isLatin1_aae02 10 = .ok (.ifCond .ne 7, 3) := by decide +kernel
theorem dJ0_isLatin1_aae02_13 : decode cJ0_isLatin1_aae02 13 = .ok (.iconst 1, 1) := by decide +kernel
theorem dJ0_isLatin1_aae02_14 : decode cJ0_isLatin1_aae02 14 = .ok (.goto 4, 3) := by decide +kernel
theorem dJ0_isLatin1_aae02_17 : decode cJ0_isLatin1_aae02 17 = .ok (.iconst 0, 1) := by decide +kernel
theorem dJ0_isLatin1_aae02_18 : decode cJ0_isLatin1_aae02 18 = .ok (.ireturn, 1) := by decide +kernel
theorem dJ0_checkIndex_df160_0 : decode cJ0_checkIndex_df160 0 = .ok (.iload_n 0, 1) := by decide +kernel
theorem dJ0_checkIndex_df160_1 : decode cJ0_checkIndex_df160 1 = .ok (.iload_n 1, 1) := by decide +kernel
theorem dJ0_checkIndex_df160_2 : decode cJ0_checkIndex_df160 2 = .ok (.getstatic 1053, 3) := by decide +kernel
theorem dJ0_checkIndex_df160_5 : decode cJ0_checkIndex_df160 5 = .ok (.invokestatic 1059, 3) := by decide +kernel
theorem dJ0_checkIndex_df160_8 : decode cJ0_checkIndex_df160 8 = .ok (.pop, 1) := by decide +kernel
theorem dJ0_checkIndex_df160_9 : decode cJ0_checkIndex_df160 9 = .ok (.return_, 1) := by decide +kernel
theorem dJ1_charAt_3b067_0 : decode cJ1_charAt_3b067 0 = .ok (.iload_n 1, 1) := by decide +kernel
theorem dJ1_charAt_3b067_1 : decode cJ1_charAt_3b067 1 = .ok (.aload_n 0, 1) := by decide +kernel
theorem dJ1_charAt_3b067_2 : decode cJ1_charAt_3b067 2 = .ok (.arraylength, 1) := by decide +kernel
theorem dJ1_charAt_3b067_3 : decode cJ1_charAt_3b067 3 = .ok (.invokestatic 9, 3) := by decide +kernel
theorem dJ1_charAt_3b067_6 : decode cJ1_charAt_3b067 6 = .ok (.aload_n 0, 1) := by decide +kernel
theorem dJ1_charAt_3b067_7 : decode cJ1_charAt_3b067 7 = .ok (.iload_n 1, 1) := by decide +kernel
theorem dJ1_charAt_3b067_8 : decode cJ1_charAt_3b067 8 = .ok (.baload, 1) := by decide +kernel
theorem dJ1_charAt_3b067_9 : decode cJ1_charAt_3b067 9 = .ok (.sipush 255, 3) := by decide +kernel
theorem dJ1_charAt_3b067_12 : decode cJ1_charAt_3b067 12 = .ok (.iand, 1) := by decide +kernel
theorem dJ1_charAt_3b067_13 : decode cJ1_charAt_3b067 13 = .ok (.i2c, 1) := by decide +kernel
theorem dJ1_charAt_3b067_14 : decode cJ1_charAt_3b067 14 = .ok (.ireturn, 1) := by decide +kernel
theorem dJ2_getChar_3b067_0 : decode cJ2_getChar_3b067 0 = .ok (.getstatic 44, 3) := by decide +kernel
theorem dJ2_getChar_3b067_3 : decode cJ2_getChar_3b067 3 = .ok (.ifCond .ne 25, 3) := by decide +kernel
theorem dJ2_getChar_3b067_6 : decode cJ2_getChar_3b067 6 = .ok (.iload_n 1, 1) := by decide +kernel
theorem dJ2_getChar_3b067_7 : decode cJ2_getChar_3b067 7 = .ok (.ifCond .lt 11, 3) := by decide +kernel
theorem dJ2_getChar_3b067_10 : decode cJ2_getChar_3b067 10 = .ok (.iload_n 1, 1) := by decide +kernel
theorem dJ2_getChar_3b067_11 : decode cJ2_getChar_3b067 11 = .ok (.aload_n 0, 1) := by decide +kernel
theorem dJ2_getChar_3b067_12 : decode cJ2_getChar_3b067 12 = .ok (.invokestatic 48, 3) := by decide +kernel
theorem dJ2_getChar_3b067_15 : decode cJ2_getChar_3b067 15 = .ok (.if_icmp .lt 13, 3) := by decide +kernel
theorem dJ2_getChar_3b067_18 : decode cJ2_getChar_3b067 18 = .ok (.new 52, 3) := by decide +kernel
theorem dJ2_getChar_3b067_21 : decode cJ2_getChar_3b067 21 = .ok (.dup, 1) := by decide +kernel
theorem dJ2_getChar_3b067_22 : decode cJ2_getChar_3b067 22 = .ok (.ldc 54, 2) := by decide +kernel
theorem dJ2_getChar_3b067_24 : decode cJ2_getChar_3b067 24 = .ok (.invokespecial 56, 3) := by decide +kernel
theorem dJ2_getChar_3b067_27 : decode cJ2_getChar_3b067 27 = .ok (.athrow, 1) := by decide +kernel
theorem dJ2_getChar_3b067_28 : decode cJ2_getChar_3b067 28 = .ok (.iload_n 1, 1) := by decide +kernel
theorem dJ2_getChar_3b067_29 : decode cJ2_getChar_3b067 29 = .ok (.iconst 1, 1) := by decide +kernel
theorem dJ2_getChar_3b067_30 : decode cJ2_getChar_3b067 30 = .ok (.ishl, 1) := by decide +kernel
theorem dJ2_getChar_3b067_31 : decode cJ2_getChar_3b067 31 = .ok (.istore_n 1, 1) := by decide +kernel
theorem dJ2_getChar_3b067_32 : decode cJ2_getChar_3b067 32 = .ok (.aload_n 0, 1) := by decide +kernel
theorem dJ2_getChar_3b067_33 : decode cJ2_getChar_3b067 33 = .ok (.iload_n 1, 1) := by decide +kernel
theorem dJ2_getChar_3b067_34 : decode cJ2_getChar_3b067 34 = .ok (.iinc 1 1, 3) := by decide +kernel
theorem dJ2_getChar_3b067_37 : decode cJ2_getChar_3b067 37 = .ok (.baload, 1) := by decide +kernel
theorem dJ2_getChar_3b067_38 : decode cJ2_getChar_3b067 38 = .ok (.sipush 255, 3) := by decide +kernel
theorem dJ2_getChar_3b067_41 : decode cJ2_getChar_3b067 41 = .ok (.iand, 1) := by decide +kernel
theorem dJ2_getChar_3b067_42 : decode cJ2_getChar_3b067 42 = .ok (.getstatic 59, 3) := by decide +kernel
theorem dJ2_getChar_3b067_45 : decode cJ2_getChar_3b067 45 = .ok (.ishl, 1) := by decide +kernel
theorem dJ2_getChar_3b067_46 : decode cJ2_getChar_3b067 46 = .ok (.aload_n 0, 1) := by decide +kernel
theorem dJ2_getChar_3b067_47 : decode cJ2_getChar_3b067 47 = .ok (.iload_n 1, 1) := by decide +kernel
theorem dJ2_getChar_3b067_48 : decode cJ2_getChar_3b067 48 = .ok (.baload, 1) := by decide +kernel
theorem dJ2_getChar_3b067_49 : decode cJ2_getChar_3b067 49 = .ok (.sipush 255, 3) := by decide +kernel
theorem dJ2_getChar_3b067_52 : decode cJ2_getChar_3b067 52 = .ok (.iand, 1) := by decide +kernel
theorem dJ2_getChar_3b067_53 : decode cJ2_getChar_3b067 53 = .ok (.getstatic 63, 3) := by decide +kernel
theorem dJ2_getChar_3b067_56 : decode cJ2_getChar_3b067 56 = .ok (.ishl, 1) := by decide +kernel
theorem dJ2_getChar_3b067_57 : decode cJ2_getChar_3b067 57 = .ok (.ior, 1) := by decide +kernel
theorem dJ2_getChar_3b067_58 : decode cJ2_getChar_3b067 58 = .ok (.i2c, 1) := by decide +kernel
theorem dJ2_getChar_3b067_59 : decode cJ2_getChar_3b067 59 = .ok (.ireturn, 1) := by decide +kernel
theorem dJ2_length_9d52b_0 : decode cJ2_length_9d52b 0 = .ok (.aload_n 0, 1) := by decide +kernel
theorem dJ2_length_9d52b_1 : decode cJ2_length_9d52b 1 = .ok (.arraylength, 1) := by decide +kernel
theorem dJ2_length_9d52b_2 : decode cJ2_length_9d52b 2 = .ok (.iconst 1, 1) := by decide +kernel
theorem dJ2_length_9d52b_3 : decode cJ2_length_9d52b 3 = .ok (.ishr, 1) := by decide +kernel
theorem dJ2_length_9d52b_4 : decode cJ2_length_9d52b 4 = .ok (.ireturn, 1) := by decide +kernel
theorem dJ2_charAt_3b067_0 : decode cJ2_charAt_3b067 0 = .ok (.iload_n 1, 1) := by decide +kernel
theorem dJ2_charAt_3b067_1 : decode cJ2_charAt_3b067 1 = .ok (.aload_n 0, 1) := by decide +kernel
theorem dJ2_charAt_3b067_2 : decode cJ2_charAt_3b067 2 = .ok (.invokestatic 67, 3) := by decide +kernel
theorem dJ2_charAt_3b067_5 : decode cJ2_charAt_3b067 5 = .ok (.aload_n 0, 1) := by decide +kernel
theorem dJ2_charAt_3b067_6 : decode cJ2_charAt_3b067 6 = .ok (.iload_n 1, 1) := by decide +kernel
theorem dJ2_charAt_3b067_7 : decode cJ2_charAt_3b067 7 = .ok (.invokestatic 71, 3) := by decide +kernel
theorem dJ2_charAt_3b067_10 : decode cJ2_charAt_3b067 10 = .ok (.ireturn, 1) := by decide +kernel
theorem dJ2_checkIndex_2214a_0 : decode cJ2_checkIndex_2214a 0 = .ok (.iload_n 0, 1) := by decide +kernel
theorem dJ2_checkIndex_2214a_1 : decode cJ2_checkIndex_2214a 1 = .ok (.aload_n 1, 1) := by decide +kernel
theorem dJ2_checkIndex_2214a_2 : decode cJ2_checkIndex_2214a 2 = .ok (.invokestatic 48, 3) := by decide +kernel
theorem dJ2_checkIndex_2214a_5 : decode cJ2_checkIndex_2214a 5 = .ok (.invokestatic 414, 3) := by decide +kernel
theorem dJ2_checkIndex_2214a_8 : decode cJ2_checkIndex_2214a 8 = .ok (.return_, 1) := by decide +kernel
theorem dJ7_fill_53178_0 : decode cJ7_fill_53178 0 = .ok (.iconst 0, 1) := by decide +kernel
theorem dJ7_fill_53178_1 : decode cJ7_fill_53178 1 = .ok (.istore_n 2, 1) := by decide +kernel
theorem dJ7_fill_53178_2 : decode cJ7_fill_53178 2 = .ok (.aload_n 0, 1) := by decide +kernel
theorem dJ7_fill_53178_3 : decode cJ7_fill_53178 3 = .ok (.arraylength, 1) := by decide +kernel
theorem dJ7_fill_53178_4 : decode cJ7_fill_53178 4 = .ok (.istore_n 3, 1) := by decide +kernel
theorem dJ7_fill_53178_5 : decode cJ7_fill_53178 5 = .ok (.iload_n 2, 1) := by decide +kernel
theorem dJ7_fill_53178_6 : decode cJ7_fill_53178 6 = .ok (.iload_n 3, 1) := by decide +kernel
theorem dJ7_fill_53178_7 : decode cJ7_fill_53178 7 = .ok (.if_icmp .ge 13, 3) := by decide +kernel
theorem dJ7_fill_53178_10 : decode cJ7_fill_53178 10 = .ok (.aload_n 0, 1) := by decide +kernel
theorem dJ7_fill_53178_11 : decode cJ7_fill_53178 11 = .ok (.iload_n 2, 1) := by decide +kernel
theorem dJ7_fill_53178_12 : decode cJ7_fill_53178 12 = .ok (.iload_n 1, 1) := by decide +kernel
theorem dJ7_fill_53178_13 : decode cJ7_fill_53178 13 = .ok (.iastore, 1) := by decide +kernel
theorem dJ7_fill_53178_14 : decode cJ7_fill_53178 14 = .ok (.iinc 2 1, 3) := by decide +kernel
theorem dJ7_fill_53178_17 : decode cJ7_fill_53178 17 = .ok (.goto (-12), 3) := by decide +kernel
theorem dJ7_fill_53178_20 : decode cJ7_fill_53178 20 = .ok (.return_, 1) := by decide +kernel
theorem dJ3_checkIndex_8e157_0 : decode cJ3_checkIndex_8e157 0 = .ok (.iload_n 0, 1) := by decide +kernel
theorem dJ3_checkIndex_8e157_1 : decode cJ3_checkIndex_8e157 1 = .ok (.ifCond .lt 8, 3) := by decide +kernel
theorem dJ3_checkIndex_8e157_4 : decode cJ3_checkIndex_8e157 4 = .ok (.iload_n 0, 1) := by decide +kernel
theorem dJ3_checkIndex_8e157_5 : decode cJ3_checkIndex_8e157 5 = .ok (.iload_n 1, 1) := by decide +kernel
theorem dJ3_checkIndex_8e157_6 : decode cJ3_checkIndex_8e157 6 = .ok (.if_icmp .lt 10, 3) := by decide +kernel
theorem dJ3_checkIndex_8e157_9 : decode cJ3_checkIndex_8e157 9 = .ok (.aload_n 2, 1) := by decide +kernel
theorem dJ3_checkIndex_8e157_10 : decode cJ3_checkIndex_8e157 10 = .ok (.iload_n 0, 1) := by decide +kernel
theorem dJ3_checkIndex_8e157_11 : decode cJ3_checkIndex_8e157 11 = .ok (.iload_n 1, 1) := by decide +kernel
theorem dJ3_checkIndex_8e157_12 : decode cJ3_checkIndex_8e157 12 = .ok (.invokestatic 95, 3) := by decide +kernel
theorem dJ3_checkIndex_8e157_15 : decode cJ3_checkIndex_8e157 15 = .ok (.athrow, 1) := by decide +kernel
theorem dJ3_checkIndex_8e157_16 : decode cJ3_checkIndex_8e157 16 = .ok (.iload_n 0, 1) := by decide +kernel
theorem dJ3_checkIndex_8e157_17 : decode cJ3_checkIndex_8e157 17 = .ok (.ireturn, 1) := by decide +kernel
theorem dL_law_0 : decode cL_law 0 = .ok (.new 7, 3) := by decide +kernel
theorem dL_law_3 : decode cL_law 3 = .ok (.dup, 1) := by decide +kernel
theorem dL_law_4 : decode cL_law 4 = .ok (.invokespecial 9, 3) := by decide +kernel
theorem dL_law_7 : decode cL_law 7 = .ok (.astore_n 1, 1) := by decide +kernel
theorem dL_law_8 : decode cL_law 8 = .ok (.new 10, 3) := by decide +kernel
theorem dL_law_11 : decode cL_law 11 = .ok (.dup, 1) := by decide +kernel
theorem dL_law_12 : decode cL_law 12 = .ok (.invokespecial 12, 3) := by decide +kernel
theorem dL_law_15 : decode cL_law 15 = .ok (.astore_n 2, 1) := by decide +kernel
theorem dL_law_16 : decode cL_law 16 = .ok (.iconst 0, 1) := by decide +kernel
theorem dL_law_17 : decode cL_law 17 = .ok (.istore_n 3, 1) := by decide +kernel
theorem dL_law_18 : decode cL_law 18 = .ok (.iload_n 3, 1) := by decide +kernel
theorem dL_law_19 : decode cL_law 19 = .ok (.aload_n 0, 1) := by decide +kernel
theorem dL_law_20 : decode cL_law 20 = .ok (.arraylength, 1) := by decide +kernel
theorem dL_law_21 : decode cL_law 21 = .ok (.bipush 6, 2) := by decide +kernel
theorem dL_law_23 : decode cL_law 23 = .ok (.isub, 1) := by decide +kernel
theorem dL_law_24 : decode cL_law 24 = .ok (.if_icmp .gt 1411, 3) := by decide +kernel
theorem dL_law_27 : decode cL_law 27 = .ok (.aload_n 0, 1) := by decide +kernel
theorem dL_law_28 : decode cL_law 28 = .ok (.iload_n 3, 1) := by decide +kernel
theorem dL_law_29 : decode cL_law 29 = .ok (.iaload, 1) := by decide +kernel
theorem dL_law_30 : decode cL_law 30 = .ok (.bipush 63, 2) := by decide +kernel
theorem dL_law_32 : decode cL_law 32 = .ok (.iand, 1) := by decide +kernel
theorem dL_law_33 : decode cL_law 33 = .ok (.tableswitch 1396 0 42 #[187, 220, 263, 296, 329, 362, 385, 418, 431, 454, 477, 510, 553, 586, 619, 652, 675, 698, 731, 754, 777, 800, 823, 846, 869, 902, 925, 958, 981, 1014, 1027, 1040, 1073, 1106, 1149, 1192, 1255, 1278, 1311, 1324, 1337, 1350, 1373], 187) := by decide +kernel
theorem dL_law_220 : decode cL_law 220 = .ok (.aload_n 1, 1) := by decide +kernel
theorem dL_law_221 : decode cL_law 221 = .ok (.aload_n 0, 1) := by decide +kernel
theorem dL_law_222 : decode cL_law 222 = .ok (.iload_n 3, 1) := by decide +kernel
theorem dL_law_223 : decode cL_law 223 = .ok (.iconst 1, 1) := by decide +kernel
theorem dL_law_224 : decode cL_law 224 = .ok (.iadd, 1) := by decide +kernel
theorem dL_law_225 : decode cL_law 225 = .ok (.iaload, 1) := by decide +kernel
theorem dL_law_226 : decode cL_law 226 = .ok (.aload_n 0, 1) := by decide +kernel
theorem dL_law_227 : decode cL_law 227 = .ok (.iload_n 3, 1) := by decide +kernel
theorem dL_law_228 : decode cL_law 228 = .ok (.iconst 2, 1) := by decide +kernel
theorem dL_law_229 : decode cL_law 229 = .ok (.iadd, 1) := by decide +kernel
theorem dL_law_230 : decode cL_law 230 = .ok (.iaload, 1) := by decide +kernel
theorem dL_law_231 : decode cL_law 231 = .ok (.invokevirtual 13, 3) := by decide +kernel
theorem dL_law_234 : decode cL_law 234 = .ok (.aload_n 2, 1) := by decide +kernel
theorem dL_law_235 : decode cL_law 235 = .ok (.aload_n 0, 1) := by decide +kernel
theorem dL_law_236 : decode cL_law 236 = .ok (.iload_n 3, 1) := by decide +kernel
theorem dL_law_237 : decode cL_law 237 = .ok (.iconst 1, 1) := by decide +kernel
theorem dL_law_238 : decode cL_law 238 = .ok (.iadd, 1) := by decide +kernel
theorem dL_law_239 : decode cL_law 239 = .ok (.iaload, 1) := by decide +kernel
theorem dL_law_240 : decode cL_law 240 = .ok (.aload_n 0, 1) := by decide +kernel
theorem dL_law_241 : decode cL_law 241 = .ok (.iload_n 3, 1) := by decide +kernel
theorem dL_law_242 : decode cL_law 242 = .ok (.iconst 2, 1) := by decide +kernel
theorem dL_law_243 : decode cL_law 243 = .ok (.iadd, 1) := by decide +kernel
theorem dL_law_244 : decode cL_law 244 = .ok (.iaload, 1) := by decide +kernel
theorem dL_law_245 : decode cL_law 245 = .ok (.invokevirtual 17, 3) := by decide +kernel
theorem dL_law_248 : decode cL_law 248 = .ok (.if_icmp .eq 1181, 3) := by decide +kernel
theorem dL_law_251 : decode cL_law 251 = .ok (.iconst 0, 1) := by decide +kernel
theorem dL_law_252 : decode cL_law 252 = .ok (.ireturn, 1) := by decide +kernel
theorem dL_law_253 : decode cL_law 253 = .ok (.aload_n 1, 1) := by decide +kernel
theorem dL_law_254 : decode cL_law 254 = .ok (.aload_n 0, 1) := by decide +kernel
theorem dL_law_255 : decode cL_law 255 = .ok (.iload_n 3, 1) := by decide +kernel
theorem dL_law_256 : decode cL_law 256 = .ok (.iconst 1, 1) := by decide +kernel
theorem dL_law_257 : decode cL_law 257 = .ok (.iadd, 1) := by decide +kernel
theorem dL_law_258 : decode cL_law 258 = .ok (.iaload, 1) := by decide +kernel
theorem dL_law_259 : decode cL_law 259 = .ok (.aload_n 0, 1) := by decide +kernel
theorem dL_law_260 : decode cL_law 260 = .ok (.iload_n 3, 1) := by decide +kernel
theorem dL_law_261 : decode cL_law 261 = .ok (.iconst 2, 1) := by decide +kernel
theorem dL_law_262 : decode cL_law 262 = .ok (.iadd, 1) := by decide +kernel
theorem dL_law_263 : decode cL_law 263 = .ok (.iaload, 1) := by decide +kernel
theorem dL_law_264 : decode cL_law 264 = .ok (.aload_n 0, 1) := by decide +kernel
theorem dL_law_265 : decode cL_law 265 = .ok (.iload_n 3, 1) := by decide +kernel
theorem dL_law_266 : decode cL_law 266 = .ok (.iconst 3, 1) := by decide +kernel
theorem dL_law_267 : decode cL_law 267 = .ok (.iadd, 1) := by decide +kernel
theorem dL_law_268 : decode cL_law 268 = .ok (.iaload, 1) := by decide +kernel
theorem dL_law_269 : decode cL_law 269 = .ok (.invokevirtual 18, 3) := by decide +kernel
theorem dL_law_272 : decode cL_law 272 = .ok (.aload_n 2, 1) := by decide +kernel
theorem dL_law_273 : decode cL_law 273 = .ok (.aload_n 0, 1) := by decide +kernel
theorem dL_law_274 : decode cL_law 274 = .ok (.iload_n 3, 1) := by decide +kernel
theorem dL_law_275 : decode cL_law 275 = .ok (.iconst 1, 1) := by decide +kernel
theorem dL_law_276 : decode cL_law 276 = .ok (.iadd, 1) := by decide +kernel
theorem dL_law_277 : decode cL_law 277 = .ok (.iaload, 1) := by decide +kernel
theorem dL_law_278 : decode cL_law 278 = .ok (.aload_n 0, 1) := by decide +kernel
theorem dL_law_279 : decode cL_law 279 = .ok (.iload_n 3, 1) := by decide +kernel
theorem dL_law_280 : decode cL_law 280 = .ok (.iconst 2, 1) := by decide +kernel
theorem dL_law_281 : decode cL_law 281 = .ok (.iadd, 1) := by decide +kernel
theorem dL_law_282 : decode cL_law 282 = .ok (.iaload, 1) := by decide +kernel
theorem dL_law_283 : decode cL_law 283 = .ok (.aload_n 0, 1) := by decide +kernel
theorem dL_law_284 : decode cL_law 284 = .ok (.iload_n 3, 1) := by decide +kernel
theorem dL_law_285 : decode cL_law 285 = .ok (.iconst 3, 1) := by decide +kernel
theorem dL_law_286 : decode cL_law 286 = .ok (.iadd, 1) := by decide +kernel
theorem dL_law_287 : decode cL_law 287 = .ok (.iaload, 1) := by decide +kernel
theorem dL_law_288 : decode cL_law 288 = .ok (.invokevirtual 22, 3) := by decide +kernel
theorem dL_law_291 : decode cL_law 291 = .ok (.if_icmp .eq 1138, 3) := by decide +kernel
theorem dL_law_294 : decode cL_law 294 = .ok (.iconst 0, 1) := by decide +kernel
theorem dL_law_295 : decode cL_law 295 = .ok (.ireturn, 1) := by decide +kernel
theorem dL_law_296 : decode cL_law 296 = .ok (.aload_n 1, 1) := by decide +kernel
theorem dL_law_297 : decode cL_law 297 = .ok (.aload_n 0, 1) := by decide +kernel
theorem dL_law_298 : decode cL_law 298 = .ok (.iload_n 3, 1) := by decide +kernel
theorem dL_law_299 : decode cL_law 299 = .ok (.iconst 1, 1) := by decide +kernel
theorem dL_law_300 : decode cL_law 300 = .ok (.iadd, 1) := by decide +kernel
theorem dL_law_301 : decode cL_law 301 = .ok (.iaload, 1) := by decide +kernel
theorem dL_law_302 : decode cL_law 302 = .ok (.aload_n 0, 1) := by decide +kernel
theorem dL_law_303 : decode cL_law 303 = .ok (.iload_n 3, 1) := by decide +kernel
theorem dL_law_304 : decode cL_law 304 = .ok (.iconst 2, 1) := by decide +kernel
theorem dL_law_305 : decode cL_law 305 = .ok (.iadd, 1) := by decide +kernel
theorem dL_law_306 : decode cL_law 306 = .ok (.iaload, 1) := by decide +kernel
theorem dL_law_307 : decode cL_law 307 = .ok (.invokevirtual 23, 3) := by decide +kernel
theorem dL_law_310 : decode cL_law 310 = .ok (.aload_n 2, 1) := by decide +kernel
theorem dL_law_311 : decode cL_law 311 = .ok (.aload_n 0, 1) := by decide +kernel
theorem dL_law_312 : decode cL_law 312 = .ok (.iload_n 3, 1) := by decide +kernel
theorem dL_law_313 : decode cL_law 313 = .ok (.iconst 1, 1) := by decide +kernel
theorem dL_law_314 : decode cL_law 314 = .ok (.iadd, 1) := by decide +kernel
theorem dL_law_315 : decode cL_law 315 = .ok (.iaload, 1) := by decide +kernel
theorem dL_law_316 : decode cL_law 316 = .ok (.aload_n 0, 1) := by decide +kernel
theorem dL_law_317 : decode cL_law 317 = .ok (.iload_n 3, 1) := by decide +kernel
theorem dL_law_318 : decode cL_law 318 = .ok (.iconst 2, 1) := by decide +kernel
theorem dL_law_319 : decode cL_law 319 = .ok (.iadd, 1) := by decide +kernel
theorem dL_law_320 : decode cL_law 320 = .ok (.iaload, 1) := by decide +kernel
theorem dL_law_321 : decode cL_law 321 = .ok (.invokevirtual 26, 3) := by decide +kernel
theorem dL_law_324 : decode cL_law 324 = .ok (.if_icmp .eq 1105, 3) := by decide +kernel
theorem dL_law_327 : decode cL_law 327 = .ok (.iconst 0, 1) := by decide +kernel
theorem dL_law_328 : decode cL_law 328 = .ok (.ireturn, 1) := by decide +kernel
theorem dL_law_329 : decode cL_law 329 = .ok (.aload_n 1, 1) := by decide +kernel
theorem dL_law_330 : decode cL_law 330 = .ok (.aload_n 0, 1) := by decide +kernel
theorem dL_law_331 : decode cL_law 331 = .ok (.iload_n 3, 1) := by decide +kernel
theorem dL_law_332 : decode cL_law 332 = .ok (.iconst 1, 1) := by decide +kernel
theorem dL_law_333 : decode cL_law 333 = .ok (.iadd, 1) := by decide +kernel
theorem dL_law_334 : decode cL_law 334 = .ok (.iaload, 1) := by decide +kernel
theorem dL_law_335 : decode cL_law 335 = .ok (.aload_n 0, 1) := by decide +kernel
theorem dL_law_336 : decode cL_law 336 = .ok (.iload_n 3, 1) := by decide +kernel
theorem dL_law_337 : decode cL_law 337 = .ok (.iconst 2, 1) := by decide +kernel
theorem dL_law_338 : decode cL_law 338 = .ok (.iadd, 1) := by decide +kernel
theorem dL_law_339 : decode cL_law 339 = .ok (.iaload, 1) := by decide +kernel
theorem dL_law_340 : decode cL_law 340 = .ok (.invokevirtual 27, 3) := by decide +kernel
theorem dL_law_343 : decode cL_law 343 = .ok (.aload_n 2, 1) := by decide +kernel
theorem dL_law_344 : decode cL_law 344 = .ok (.aload_n 0, 1) := by decide +kernel
theorem dL_law_345 : decode cL_law 345 = .ok (.iload_n 3, 1) := by decide +kernel
theorem dL_law_346 : decode cL_law 346 = .ok (.iconst 1, 1) := by decide +kernel
theorem dL_law_347 : decode cL_law 347 = .ok (.iadd, 1) := by decide +kernel
theorem dL_law_348 : decode cL_law 348 = .ok (.iaload, 1) := by decide +kernel
theorem dL_law_349 : decode cL_law 349 = .ok (.aload_n 0, 1) := by decide +kernel
theorem dL_law_350 : decode cL_law 350 = .ok (.iload_n 3, 1) := by decide +kernel
theorem dL_law_351 : decode cL_law 351 = .ok (.iconst 2, 1) := by decide +kernel
theorem dL_law_352 : decode cL_law 352 = .ok (.iadd, 1) := by decide +kernel
theorem dL_law_353 : decode cL_law 353 = .ok (.iaload, 1) := by decide +kernel
theorem dL_law_354 : decode cL_law 354 = .ok (.invokevirtual 30, 3) := by decide +kernel
theorem dL_law_357 : decode cL_law 357 = .ok (.if_icmp .eq 1072, 3) := by decide +kernel
theorem dL_law_360 : decode cL_law 360 = .ok (.iconst 0, 1) := by decide +kernel
theorem dL_law_361 : decode cL_law 361 = .ok (.ireturn, 1) := by decide +kernel
theorem dL_law_362 : decode cL_law 362 = .ok (.aload_n 1, 1) := by decide +kernel
theorem dL_law_363 : decode cL_law 363 = .ok (.aload_n 0, 1) := by decide +kernel
theorem dL_law_364 : decode cL_law 364 = .ok (.iload_n 3, 1) := by decide +kernel
theorem dL_law_365 : decode cL_law 365 = .ok (.iconst 1, 1) := by decide +kernel
theorem dL_law_366 : decode cL_law 366 = .ok (.iadd, 1) := by decide +kernel
theorem dL_law_367 : decode cL_law 367 = .ok (.iaload, 1) := by decide +kernel
theorem dL_law_368 : decode cL_law 368 = .ok (.aload_n 0, 1) := by decide +kernel
theorem dL_law_369 : decode cL_law 369 = .ok (.iload_n 3, 1) := by decide +kernel
theorem dL_law_370 : decode cL_law 370 = .ok (.iconst 2, 1) := by decide +kernel
theorem dL_law_371 : decode cL_law 371 = .ok (.iadd, 1) := by decide +kernel
theorem dL_law_372 : decode cL_law 372 = .ok (.iaload, 1) := by decide +kernel
theorem dL_law_373 : decode cL_law 373 = .ok (.invokevirtual 31, 3) := by decide +kernel
theorem dL_law_376 : decode cL_law 376 = .ok (.aload_n 2, 1) := by decide +kernel
theorem dL_law_377 : decode cL_law 377 = .ok (.aload_n 0, 1) := by decide +kernel
theorem dL_law_378 : decode cL_law 378 = .ok (.iload_n 3, 1) := by decide +kernel
theorem dL_law_379 : decode cL_law 379 = .ok (.iconst 1, 1) := by decide +kernel
theorem dL_law_380 : decode cL_law 380 = .ok (.iadd, 1) := by decide +kernel
theorem dL_law_381 : decode cL_law 381 = .ok (.iaload, 1) := by decide +kernel
theorem dL_law_382 : decode cL_law 382 = .ok (.aload_n 0, 1) := by decide +kernel
theorem dL_law_383 : decode cL_law 383 = .ok (.iload_n 3, 1) := by decide +kernel
theorem dL_law_384 : decode cL_law 384 = .ok (.iconst 2, 1) := by decide +kernel
theorem dL_law_385 : decode cL_law 385 = .ok (.iadd, 1) := by decide +kernel
theorem dL_law_386 : decode cL_law 386 = .ok (.iaload, 1) := by decide +kernel
theorem dL_law_387 : decode cL_law 387 = .ok (.invokevirtual 34, 3) := by decide +kernel
theorem dL_law_390 : decode cL_law 390 = .ok (.if_icmp .eq 1039, 3) := by decide +kernel
theorem dL_law_393 : decode cL_law 393 = .ok (.iconst 0, 1) := by decide +kernel
theorem dL_law_394 : decode cL_law 394 = .ok (.ireturn, 1) := by decide +kernel
theorem dL_law_395 : decode cL_law 395 = .ok (.aload_n 1, 1) := by decide +kernel
theorem dL_law_396 : decode cL_law 396 = .ok (.aload_n 0, 1) := by decide +kernel
theorem dL_law_397 : decode cL_law 397 = .ok (.iload_n 3, 1) := by decide +kernel
theorem dL_law_398 : decode cL_law 398 = .ok (.iconst 1, 1) := by decide +kernel
theorem dL_law_399 : decode cL_law 399 = .ok (.iadd, 1) := by decide +kernel
theorem dL_law_400 : decode cL_law 400 = .ok (.iaload, 1) := by decide +kernel
theorem dL_law_401 : decode cL_law 401 = .ok (.invokevirtual 35, 3) := by decide +kernel
theorem dL_law_404 : decode cL_law 404 = .ok (.aload_n 2, 1) := by decide +kernel
theorem dL_law_405 : decode cL_law 405 = .ok (.aload_n 0, 1) := by decide +kernel
theorem dL_law_406 : decode cL_law 406 = .ok (.iload_n 3, 1) := by decide +kernel
theorem dL_law_407 : decode cL_law 407 = .ok (.iconst 1, 1) := by decide +kernel
theorem dL_law_408 : decode cL_law 408 = .ok (.iadd, 1) := by decide +kernel
theorem dL_law_409 : decode cL_law 409 = .ok (.iaload, 1) := by decide +kernel
theorem dL_law_410 : decode cL_law 410 = .ok (.invokevirtual 39, 3) := by decide +kernel
theorem dL_law_413 : decode cL_law 413 = .ok (.if_icmp .eq 1016, 3) := by decide +kernel
theorem dL_law_416 : decode cL_law 416 = .ok (.iconst 0, 1) := by decide +kernel
theorem dL_law_417 : decode cL_law 417 = .ok (.ireturn, 1) := by decide +kernel
theorem dL_law_418 : decode cL_law 418 = .ok (.aload_n 1, 1) := by decide +kernel
theorem dL_law_419 : decode cL_law 419 = .ok (.aload_n 0, 1) := by decide +kernel
theorem dL_law_420 : decode cL_law 420 = .ok (.iload_n 3, 1) := by decide +kernel
theorem dL_law_421 : decode cL_law 421 = .ok (.iconst 1, 1) := by decide +kernel
theorem dL_law_422 : decode cL_law 422 = .ok (.iadd, 1) := by decide +kernel
theorem dL_law_423 : decode cL_law 423 = .ok (.iaload, 1) := by decide +kernel
theorem dL_law_424 : decode cL_law 424 = .ok (.aload_n 0, 1) := by decide +kernel
theorem dL_law_425 : decode cL_law 425 = .ok (.iload_n 3, 1) := by decide +kernel
theorem dL_law_426 : decode cL_law 426 = .ok (.iconst 2, 1) := by decide +kernel
theorem dL_law_427 : decode cL_law 427 = .ok (.iadd, 1) := by decide +kernel
theorem dL_law_428 : decode cL_law 428 = .ok (.iaload, 1) := by decide +kernel
theorem dL_law_429 : decode cL_law 429 = .ok (.invokevirtual 40, 3) := by decide +kernel
theorem dL_law_432 : decode cL_law 432 = .ok (.aload_n 2, 1) := by decide +kernel
theorem dL_law_433 : decode cL_law 433 = .ok (.aload_n 0, 1) := by decide +kernel
theorem dL_law_434 : decode cL_law 434 = .ok (.iload_n 3, 1) := by decide +kernel
theorem dL_law_435 : decode cL_law 435 = .ok (.iconst 1, 1) := by decide +kernel
theorem dL_law_436 : decode cL_law 436 = .ok (.iadd, 1) := by decide +kernel
theorem dL_law_437 : decode cL_law 437 = .ok (.iaload, 1) := by decide +kernel
theorem dL_law_438 : decode cL_law 438 = .ok (.aload_n 0, 1) := by decide +kernel
theorem dL_law_439 : decode cL_law 439 = .ok (.iload_n 3, 1) := by decide +kernel
theorem dL_law_440 : decode cL_law 440 = .ok (.iconst 2, 1) := by decide +kernel
theorem dL_law_441 : decode cL_law 441 = .ok (.iadd, 1) := by decide +kernel
theorem dL_law_442 : decode cL_law 442 = .ok (.iaload, 1) := by decide +kernel
theorem dL_law_443 : decode cL_law 443 = .ok (.invokevirtual 43, 3) := by decide +kernel
theorem dL_law_446 : decode cL_law 446 = .ok (.if_icmp .eq 983, 3) := by decide +kernel
theorem dL_law_449 : decode cL_law 449 = .ok (.iconst 0, 1) := by decide +kernel
theorem dL_law_450 : decode cL_law 450 = .ok (.ireturn, 1) := by decide +kernel
theorem dL_law_451 : decode cL_law 451 = .ok (.aload_n 1, 1) := by decide +kernel
theorem dL_law_452 : decode cL_law 452 = .ok (.invokevirtual 44, 3) := by decide +kernel
theorem dL_law_455 : decode cL_law 455 = .ok (.aload_n 2, 1) := by decide +kernel
theorem dL_law_456 : decode cL_law 456 = .ok (.invokevirtual 48, 3) := by decide +kernel
theorem dL_law_459 : decode cL_law 459 = .ok (.if_icmp .eq 970, 3) := by decide +kernel
theorem dL_law_462 : decode cL_law 462 = .ok (.iconst 0, 1) := by decide +kernel
theorem dL_law_463 : decode cL_law 463 = .ok (.ireturn, 1) := by decide +kernel
theorem dL_law_464 : decode cL_law 464 = .ok (.aload_n 1, 1) := by decide +kernel
theorem dL_law_465 : decode cL_law 465 = .ok (.aload_n 0, 1) := by decide +kernel
theorem dL_law_466 : decode cL_law 466 = .ok (.iload_n 3, 1) := by decide +kernel
theorem dL_law_467 : decode cL_law 467 = .ok (.iconst 1, 1) := by decide +kernel
theorem dL_law_468 : decode cL_law 468 = .ok (.iadd, 1) := by decide +kernel
theorem dL_law_469 : decode cL_law 469 = .ok (.iaload, 1) := by decide +kernel
theorem dL_law_470 : decode cL_law 470 = .ok (.invokevirtual 49, 3) := by decide +kernel
theorem dL_law_473 : decode cL_law 473 = .ok (.aload_n 2, 1) := by decide +kernel
theorem dL_law_474 : decode cL_law 474 = .ok (.aload_n 0, 1) := by decide +kernel
theorem dL_law_475 : decode cL_law 475 = .ok (.iload_n 3, 1) := by decide +kernel
theorem dL_law_476 : decode cL_law 476 = .ok (.iconst 1, 1) := by decide +kernel
theorem dL_law_477 : decode cL_law 477 = .ok (.iadd, 1) := by decide +kernel
theorem dL_law_478 : decode cL_law 478 = .ok (.iaload, 1) := by decide +kernel
theorem dL_law_479 : decode cL_law 479 = .ok (.invokevirtual 52, 3) := by decide +kernel
theorem dL_law_482 : decode cL_law 482 = .ok (.if_icmp .eq 947, 3) := by decide +kernel
theorem dL_law_485 : decode cL_law 485 = .ok (.iconst 0, 1) := by decide +kernel
theorem dL_law_486 : decode cL_law 486 = .ok (.ireturn, 1) := by decide +kernel
theorem dL_law_487 : decode cL_law 487 = .ok (.aload_n 1, 1) := by decide +kernel
theorem dL_law_488 : decode cL_law 488 = .ok (.aload_n 0, 1) := by decide +kernel
theorem dL_law_489 : decode cL_law 489 = .ok (.iload_n 3, 1) := by decide +kernel
theorem dL_law_490 : decode cL_law 490 = .ok (.iconst 1, 1) := by decide +kernel
theorem dL_law_491 : decode cL_law 491 = .ok (.iadd, 1) := by decide +kernel
theorem dL_law_492 : decode cL_law 492 = .ok (.iaload, 1) := by decide +kernel
theorem dL_law_493 : decode cL_law 493 = .ok (.invokevirtual 53, 3) := by decide +kernel
theorem dL_law_496 : decode cL_law 496 = .ok (.aload_n 2, 1) := by decide +kernel
theorem dL_law_497 : decode cL_law 497 = .ok (.aload_n 0, 1) := by decide +kernel
theorem dL_law_498 : decode cL_law 498 = .ok (.iload_n 3, 1) := by decide +kernel
theorem dL_law_499 : decode cL_law 499 = .ok (.iconst 1, 1) := by decide +kernel
theorem dL_law_500 : decode cL_law 500 = .ok (.iadd, 1) := by decide +kernel
theorem dL_law_501 : decode cL_law 501 = .ok (.iaload, 1) := by decide +kernel
theorem dL_law_502 : decode cL_law 502 = .ok (.invokevirtual 56, 3) := by decide +kernel
theorem dL_law_505 : decode cL_law 505 = .ok (.if_icmp .eq 924, 3) := by decide +kernel
theorem dL_law_508 : decode cL_law 508 = .ok (.iconst 0, 1) := by decide +kernel
theorem dL_law_509 : decode cL_law 509 = .ok (.ireturn, 1) := by decide +kernel
theorem dL_law_510 : decode cL_law 510 = .ok (.aload_n 1, 1) := by decide +kernel
theorem dL_law_511 : decode cL_law 511 = .ok (.aload_n 0, 1) := by decide +kernel
theorem dL_law_512 : decode cL_law 512 = .ok (.iload_n 3, 1) := by decide +kernel
theorem dL_law_513 : decode cL_law 513 = .ok (.iconst 1, 1) := by decide +kernel
theorem dL_law_514 : decode cL_law 514 = .ok (.iadd, 1) := by decide +kernel
theorem dL_law_515 : decode cL_law 515 = .ok (.iaload, 1) := by decide +kernel
theorem dL_law_516 : decode cL_law 516 = .ok (.aload_n 0, 1) := by decide +kernel
theorem dL_law_517 : decode cL_law 517 = .ok (.iload_n 3, 1) := by decide +kernel
theorem dL_law_518 : decode cL_law 518 = .ok (.iconst 2, 1) := by decide +kernel
theorem dL_law_519 : decode cL_law 519 = .ok (.iadd, 1) := by decide +kernel
theorem dL_law_520 : decode cL_law 520 = .ok (.iaload, 1) := by decide +kernel
theorem dL_law_521 : decode cL_law 521 = .ok (.invokevirtual 57, 3) := by decide +kernel
theorem dL_law_524 : decode cL_law 524 = .ok (.aload_n 2, 1) := by decide +kernel
theorem dL_law_525 : decode cL_law 525 = .ok (.aload_n 0, 1) := by decide +kernel
theorem dL_law_526 : decode cL_law 526 = .ok (.iload_n 3, 1) := by decide +kernel
theorem dL_law_527 : decode cL_law 527 = .ok (.iconst 1, 1) := by decide +kernel
theorem dL_law_528 : decode cL_law 528 = .ok (.iadd, 1) := by decide +kernel
theorem dL_law_529 : decode cL_law 529 = .ok (.iaload, 1) := by decide +kernel
theorem dL_law_530 : decode cL_law 530 = .ok (.aload_n 0, 1) := by decide +kernel
theorem dL_law_531 : decode cL_law 531 = .ok (.iload_n 3, 1) := by decide +kernel
theorem dL_law_532 : decode cL_law 532 = .ok (.iconst 2, 1) := by decide +kernel
theorem dL_law_533 : decode cL_law 533 = .ok (.iadd, 1) := by decide +kernel
theorem dL_law_534 : decode cL_law 534 = .ok (.iaload, 1) := by decide +kernel
theorem dL_law_535 : decode cL_law 535 = .ok (.invokevirtual 60, 3) := by decide +kernel
theorem dL_law_538 : decode cL_law 538 = .ok (.if_icmp .eq 891, 3) := by decide +kernel
theorem dL_law_541 : decode cL_law 541 = .ok (.iconst 0, 1) := by decide +kernel
theorem dL_law_542 : decode cL_law 542 = .ok (.ireturn, 1) := by decide +kernel
theorem dL_law_543 : decode cL_law 543 = .ok (.aload_n 1, 1) := by decide +kernel
theorem dL_law_544 : decode cL_law 544 = .ok (.aload_n 0, 1) := by decide +kernel
theorem dL_law_545 : decode cL_law 545 = .ok (.iload_n 3, 1) := by decide +kernel
theorem dL_law_546 : decode cL_law 546 = .ok (.iconst 1, 1) := by decide +kernel
theorem dL_law_547 : decode cL_law 547 = .ok (.iadd, 1) := by decide +kernel
theorem dL_law_548 : decode cL_law 548 = .ok (.iaload, 1) := by decide +kernel
theorem dL_law_549 : decode cL_law 549 = .ok (.aload_n 0, 1) := by decide +kernel
theorem dL_law_550 : decode cL_law 550 = .ok (.iload_n 3, 1) := by decide +kernel
theorem dL_law_551 : decode cL_law 551 = .ok (.iconst 2, 1) := by decide +kernel
theorem dL_law_552 : decode cL_law 552 = .ok (.iadd, 1) := by decide +kernel
theorem dL_law_553 : decode cL_law 553 = .ok (.iaload, 1) := by decide +kernel
theorem dL_law_554 : decode cL_law 554 = .ok (.aload_n 0, 1) := by decide +kernel
theorem dL_law_555 : decode cL_law 555 = .ok (.iload_n 3, 1) := by decide +kernel
theorem dL_law_556 : decode cL_law 556 = .ok (.iconst 3, 1) := by decide +kernel
theorem dL_law_557 : decode cL_law 557 = .ok (.iadd, 1) := by decide +kernel
theorem dL_law_558 : decode cL_law 558 = .ok (.iaload, 1) := by decide +kernel
theorem dL_law_559 : decode cL_law 559 = .ok (.invokevirtual 61, 3) := by decide +kernel
theorem dL_law_562 : decode cL_law 562 = .ok (.aload_n 2, 1) := by decide +kernel
theorem dL_law_563 : decode cL_law 563 = .ok (.aload_n 0, 1) := by decide +kernel
theorem dL_law_564 : decode cL_law 564 = .ok (.iload_n 3, 1) := by decide +kernel
theorem dL_law_565 : decode cL_law 565 = .ok (.iconst 1, 1) := by decide +kernel
theorem dL_law_566 : decode cL_law 566 = .ok (.iadd, 1) := by decide +kernel
theorem dL_law_567 : decode cL_law 567 = .ok (.iaload, 1) := by decide +kernel
theorem dL_law_568 : decode cL_law 568 = .ok (.aload_n 0, 1) := by decide +kernel
theorem dL_law_569 : decode cL_law 569 = .ok (.iload_n 3, 1) := by decide +kernel
theorem dL_law_570 : decode cL_law 570 = .ok (.iconst 2, 1) := by decide +kernel
theorem dL_law_571 : decode cL_law 571 = .ok (.iadd, 1) := by decide +kernel
theorem dL_law_572 : decode cL_law 572 = .ok (.iaload, 1) := by decide +kernel
theorem dL_law_573 : decode cL_law 573 = .ok (.aload_n 0, 1) := by decide +kernel
theorem dL_law_574 : decode cL_law 574 = .ok (.iload_n 3, 1) := by decide +kernel
theorem dL_law_575 : decode cL_law 575 = .ok (.iconst 3, 1) := by decide +kernel
theorem dL_law_576 : decode cL_law 576 = .ok (.iadd, 1) := by decide +kernel
theorem dL_law_577 : decode cL_law 577 = .ok (.iaload, 1) := by decide +kernel
theorem dL_law_578 : decode cL_law 578 = .ok (.invokevirtual 64, 3) := by decide +kernel
theorem dL_law_581 : decode cL_law 581 = .ok (.if_icmp .eq 848, 3) := by decide +kernel
theorem dL_law_584 : decode cL_law 584 = .ok (.iconst 0, 1) := by decide +kernel
theorem dL_law_585 : decode cL_law 585 = .ok (.ireturn, 1) := by decide +kernel
theorem dL_law_586 : decode cL_law 586 = .ok (.aload_n 1, 1) := by decide +kernel
theorem dL_law_587 : decode cL_law 587 = .ok (.aload_n 0, 1) := by decide +kernel
theorem dL_law_588 : decode cL_law 588 = .ok (.iload_n 3, 1) := by decide +kernel
theorem dL_law_589 : decode cL_law 589 = .ok (.iconst 1, 1) := by decide +kernel
theorem dL_law_590 : decode cL_law 590 = .ok (.iadd, 1) := by decide +kernel
theorem dL_law_591 : decode cL_law 591 = .ok (.iaload, 1) := by decide +kernel
theorem dL_law_592 : decode cL_law 592 = .ok (.aload_n 0, 1) := by decide +kernel
theorem dL_law_593 : decode cL_law 593 = .ok (.iload_n 3, 1) := by decide +kernel
theorem dL_law_594 : decode cL_law 594 = .ok (.iconst 2, 1) := by decide +kernel
theorem dL_law_595 : decode cL_law 595 = .ok (.iadd, 1) := by decide +kernel
theorem dL_law_596 : decode cL_law 596 = .ok (.iaload, 1) := by decide +kernel
theorem dL_law_597 : decode cL_law 597 = .ok (.invokevirtual 65, 3) := by decide +kernel
theorem dL_law_600 : decode cL_law 600 = .ok (.aload_n 2, 1) := by decide +kernel
theorem dL_law_601 : decode cL_law 601 = .ok (.aload_n 0, 1) := by decide +kernel
theorem dL_law_602 : decode cL_law 602 = .ok (.iload_n 3, 1) := by decide +kernel
theorem dL_law_603 : decode cL_law 603 = .ok (.iconst 1, 1) := by decide +kernel
theorem dL_law_604 : decode cL_law 604 = .ok (.iadd, 1) := by decide +kernel
theorem dL_law_605 : decode cL_law 605 = .ok (.iaload, 1) := by decide +kernel
theorem dL_law_606 : decode cL_law 606 = .ok (.aload_n 0, 1) := by decide +kernel
theorem dL_law_607 : decode cL_law 607 = .ok (.iload_n 3, 1) := by decide +kernel
theorem dL_law_608 : decode cL_law 608 = .ok (.iconst 2, 1) := by decide +kernel
theorem dL_law_609 : decode cL_law 609 = .ok (.iadd, 1) := by decide +kernel
theorem dL_law_610 : decode cL_law 610 = .ok (.iaload, 1) := by decide +kernel
theorem dL_law_611 : decode cL_law 611 = .ok (.invokevirtual 68, 3) := by decide +kernel
theorem dL_law_614 : decode cL_law 614 = .ok (.if_icmp .eq 815, 3) := by decide +kernel
theorem dL_law_617 : decode cL_law 617 = .ok (.iconst 0, 1) := by decide +kernel
theorem dL_law_618 : decode cL_law 618 = .ok (.ireturn, 1) := by decide +kernel
theorem dL_law_619 : decode cL_law 619 = .ok (.aload_n 1, 1) := by decide +kernel
theorem dL_law_620 : decode cL_law 620 = .ok (.aload_n 0, 1) := by decide +kernel
theorem dL_law_621 : decode cL_law 621 = .ok (.iload_n 3, 1) := by decide +kernel
theorem dL_law_622 : decode cL_law 622 = .ok (.iconst 1, 1) := by decide +kernel
theorem dL_law_623 : decode cL_law 623 = .ok (.iadd, 1) := by decide +kernel
theorem dL_law_624 : decode cL_law 624 = .ok (.iaload, 1) := by decide +kernel
theorem dL_law_625 : decode cL_law 625 = .ok (.aload_n 0, 1) := by decide +kernel
theorem dL_law_626 : decode cL_law 626 = .ok (.iload_n 3, 1) := by decide +kernel
theorem dL_law_627 : decode cL_law 627 = .ok (.iconst 2, 1) := by decide +kernel
theorem dL_law_628 : decode cL_law 628 = .ok (.iadd, 1) := by decide +kernel
theorem dL_law_629 : decode cL_law 629 = .ok (.iaload, 1) := by decide +kernel
theorem dL_law_630 : decode cL_law 630 = .ok (.invokevirtual 69, 3) := by decide +kernel
theorem dL_law_633 : decode cL_law 633 = .ok (.aload_n 2, 1) := by decide +kernel
theorem dL_law_634 : decode cL_law 634 = .ok (.aload_n 0, 1) := by decide +kernel
theorem dL_law_635 : decode cL_law 635 = .ok (.iload_n 3, 1) := by decide +kernel
theorem dL_law_636 : decode cL_law 636 = .ok (.iconst 1, 1) := by decide +kernel
theorem dL_law_637 : decode cL_law 637 = .ok (.iadd, 1) := by decide +kernel
theorem dL_law_638 : decode cL_law 638 = .ok (.iaload, 1) := by decide +kernel
theorem dL_law_639 : decode cL_law 639 = .ok (.aload_n 0, 1) := by decide +kernel
theorem dL_law_640 : decode cL_law 640 = .ok (.iload_n 3, 1) := by decide +kernel
theorem dL_law_641 : decode cL_law 641 = .ok (.iconst 2, 1) := by decide +kernel
theorem dL_law_642 : decode cL_law 642 = .ok (.iadd, 1) := by decide +kernel
theorem dL_law_643 : decode cL_law 643 = .ok (.iaload, 1) := by decide +kernel
theorem dL_law_644 : decode cL_law 644 = .ok (.invokevirtual 72, 3) := by decide +kernel
theorem dL_law_647 : decode cL_law 647 = .ok (.if_icmp .eq 782, 3) := by decide +kernel
theorem dL_law_650 : decode cL_law 650 = .ok (.iconst 0, 1) := by decide +kernel
theorem dL_law_651 : decode cL_law 651 = .ok (.ireturn, 1) := by decide +kernel
theorem dL_law_652 : decode cL_law 652 = .ok (.aload_n 1, 1) := by decide +kernel
theorem dL_law_653 : decode cL_law 653 = .ok (.aload_n 0, 1) := by decide +kernel
theorem dL_law_654 : decode cL_law 654 = .ok (.iload_n 3, 1) := by decide +kernel
theorem dL_law_655 : decode cL_law 655 = .ok (.iconst 1, 1) := by decide +kernel
theorem dL_law_656 : decode cL_law 656 = .ok (.iadd, 1) := by decide +kernel
theorem dL_law_657 : decode cL_law 657 = .ok (.iaload, 1) := by decide +kernel
theorem dL_law_658 : decode cL_law 658 = .ok (.aload_n 0, 1) := by decide +kernel
theorem dL_law_659 : decode cL_law 659 = .ok (.iload_n 3, 1) := by decide +kernel
theorem dL_law_660 : decode cL_law 660 = .ok (.iconst 2, 1) := by decide +kernel
theorem dL_law_661 : decode cL_law 661 = .ok (.iadd, 1) := by decide +kernel
theorem dL_law_662 : decode cL_law 662 = .ok (.iaload, 1) := by decide +kernel
theorem dL_law_663 : decode cL_law 663 = .ok (.invokevirtual 73, 3) := by decide +kernel
theorem dL_law_666 : decode cL_law 666 = .ok (.aload_n 2, 1) := by decide +kernel
theorem dL_law_667 : decode cL_law 667 = .ok (.aload_n 0, 1) := by decide +kernel
theorem dL_law_668 : decode cL_law 668 = .ok (.iload_n 3, 1) := by decide +kernel
theorem dL_law_669 : decode cL_law 669 = .ok (.iconst 1, 1) := by decide +kernel
theorem dL_law_670 : decode cL_law 670 = .ok (.iadd, 1) := by decide +kernel
theorem dL_law_671 : decode cL_law 671 = .ok (.iaload, 1) := by decide +kernel
theorem dL_law_672 : decode cL_law 672 = .ok (.aload_n 0, 1) := by decide +kernel
theorem dL_law_673 : decode cL_law 673 = .ok (.iload_n 3, 1) := by decide +kernel
theorem dL_law_674 : decode cL_law 674 = .ok (.iconst 2, 1) := by decide +kernel
theorem dL_law_675 : decode cL_law 675 = .ok (.iadd, 1) := by decide +kernel
theorem dL_law_676 : decode cL_law 676 = .ok (.iaload, 1) := by decide +kernel
theorem dL_law_677 : decode cL_law 677 = .ok (.invokevirtual 76, 3) := by decide +kernel
theorem dL_law_680 : decode cL_law 680 = .ok (.if_icmp .eq 749, 3) := by decide +kernel
theorem dL_law_683 : decode cL_law 683 = .ok (.iconst 0, 1) := by decide +kernel
theorem dL_law_684 : decode cL_law 684 = .ok (.ireturn, 1) := by decide +kernel
theorem dL_law_685 : decode cL_law 685 = .ok (.aload_n 1, 1) := by decide +kernel
theorem dL_law_686 : decode cL_law 686 = .ok (.aload_n 0, 1) := by decide +kernel
theorem dL_law_687 : decode cL_law 687 = .ok (.iload_n 3, 1) := by decide +kernel
theorem dL_law_688 : decode cL_law 688 = .ok (.iconst 1, 1) := by decide +kernel
theorem dL_law_689 : decode cL_law 689 = .ok (.iadd, 1) := by decide +kernel
theorem dL_law_690 : decode cL_law 690 = .ok (.iaload, 1) := by decide +kernel
theorem dL_law_691 : decode cL_law 691 = .ok (.invokevirtual 77, 3) := by decide +kernel
theorem dL_law_694 : decode cL_law 694 = .ok (.aload_n 2, 1) := by decide +kernel
theorem dL_law_695 : decode cL_law 695 = .ok (.aload_n 0, 1) := by decide +kernel
theorem dL_law_696 : decode cL_law 696 = .ok (.iload_n 3, 1) := by decide +kernel
theorem dL_law_697 : decode cL_law 697 = .ok (.iconst 1, 1) := by decide +kernel
theorem dL_law_698 : decode cL_law 698 = .ok (.iadd, 1) := by decide +kernel
theorem dL_law_699 : decode cL_law 699 = .ok (.iaload, 1) := by decide +kernel
theorem dL_law_700 : decode cL_law 700 = .ok (.invokevirtual 80, 3) := by decide +kernel
theorem dL_law_703 : decode cL_law 703 = .ok (.if_icmp .eq 726, 3) := by decide +kernel
theorem dL_law_706 : decode cL_law 706 = .ok (.iconst 0, 1) := by decide +kernel
theorem dL_law_707 : decode cL_law 707 = .ok (.ireturn, 1) := by decide +kernel
theorem dL_law_708 : decode cL_law 708 = .ok (.aload_n 1, 1) := by decide +kernel
theorem dL_law_709 : decode cL_law 709 = .ok (.aload_n 0, 1) := by decide +kernel
theorem dL_law_710 : decode cL_law 710 = .ok (.iload_n 3, 1) := by decide +kernel
theorem dL_law_711 : decode cL_law 711 = .ok (.iconst 1, 1) := by decide +kernel
theorem dL_law_712 : decode cL_law 712 = .ok (.iadd, 1) := by decide +kernel
theorem dL_law_713 : decode cL_law 713 = .ok (.iaload, 1) := by decide +kernel
theorem dL_law_714 : decode cL_law 714 = .ok (.invokevirtual 81, 3) := by decide +kernel
theorem dL_law_717 : decode cL_law 717 = .ok (.aload_n 2, 1) := by decide +kernel
theorem dL_law_718 : decode cL_law 718 = .ok (.aload_n 0, 1) := by decide +kernel
theorem dL_law_719 : decode cL_law 719 = .ok (.iload_n 3, 1) := by decide +kernel
theorem dL_law_720 : decode cL_law 720 = .ok (.iconst 1, 1) := by decide +kernel
theorem dL_law_721 : decode cL_law 721 = .ok (.iadd, 1) := by decide +kernel
theorem dL_law_722 : decode cL_law 722 = .ok (.iaload, 1) := by decide +kernel
theorem dL_law_723 : decode cL_law 723 = .ok (.invokevirtual 84, 3) := by decide +kernel
theorem dL_law_726 : decode cL_law 726 = .ok (.if_icmp .eq 703, 3) := by decide +kernel
theorem dL_law_729 : decode cL_law 729 = .ok (.iconst 0, 1) := by decide +kernel
theorem dL_law_730 : decode cL_law 730 = .ok (.ireturn, 1) := by decide +kernel
theorem dL_law_731 : decode cL_law 731 = .ok (.aload_n 1, 1) := by decide +kernel
theorem dL_law_732 : decode cL_law 732 = .ok (.aload_n 0, 1) := by decide +kernel
theorem dL_law_733 : decode cL_law 733 = .ok (.iload_n 3, 1) := by decide +kernel
theorem dL_law_734 : decode cL_law 734 = .ok (.iconst 1, 1) := by decide +kernel
theorem dL_law_735 : decode cL_law 735 = .ok (.iadd, 1) := by decide +kernel
theorem dL_law_736 : decode cL_law 736 = .ok (.iaload, 1) := by decide +kernel
theorem dL_law_737 : decode cL_law 737 = .ok (.aload_n 0, 1) := by decide +kernel
theorem dL_law_738 : decode cL_law 738 = .ok (.iload_n 3, 1) := by decide +kernel
theorem dL_law_739 : decode cL_law 739 = .ok (.iconst 2, 1) := by decide +kernel
theorem dL_law_740 : decode cL_law 740 = .ok (.iadd, 1) := by decide +kernel
theorem dL_law_741 : decode cL_law 741 = .ok (.iaload, 1) := by decide +kernel
theorem dL_law_742 : decode cL_law 742 = .ok (.invokevirtual 85, 3) := by decide +kernel
theorem dL_law_745 : decode cL_law 745 = .ok (.aload_n 2, 1) := by decide +kernel
theorem dL_law_746 : decode cL_law 746 = .ok (.aload_n 0, 1) := by decide +kernel
theorem dL_law_747 : decode cL_law 747 = .ok (.iload_n 3, 1) := by decide +kernel
theorem dL_law_748 : decode cL_law 748 = .ok (.iconst 1, 1) := by decide +kernel
theorem dL_law_749 : decode cL_law 749 = .ok (.iadd, 1) := by decide +kernel
theorem dL_law_750 : decode cL_law 750 = .ok (.iaload, 1) := by decide +kernel
theorem dL_law_751 : decode cL_law 751 = .ok (.aload_n 0, 1) := by decide +kernel
theorem dL_law_752 : decode cL_law 752 = .ok (.iload_n 3, 1) := by decide +kernel
theorem dL_law_753 : decode cL_law 753 = .ok (.iconst 2, 1) := by decide +kernel
theorem dL_law_754 : decode cL_law 754 = .ok (.iadd, 1) := by decide +kernel
theorem dL_law_755 : decode cL_law 755 = .ok (.iaload, 1) := by decide +kernel
theorem dL_law_756 : decode cL_law 756 = .ok (.invokevirtual 88, 3) := by decide +kernel
theorem dL_law_759 : decode cL_law 759 = .ok (.if_icmp .eq 670, 3) := by decide +kernel
theorem dL_law_762 : decode cL_law 762 = .ok (.iconst 0, 1) := by decide +kernel
theorem dL_law_763 : decode cL_law 763 = .ok (.ireturn, 1) := by decide +kernel
theorem dL_law_764 : decode cL_law 764 = .ok (.aload_n 1, 1) := by decide +kernel
theorem dL_law_765 : decode cL_law 765 = .ok (.aload_n 0, 1) := by decide +kernel
theorem dL_law_766 : decode cL_law 766 = .ok (.iload_n 3, 1) := by decide +kernel
theorem dL_law_767 : decode cL_law 767 = .ok (.iconst 1, 1) := by decide +kernel
theorem dL_law_768 : decode cL_law 768 = .ok (.iadd, 1) := by decide +kernel
theorem dL_law_769 : decode cL_law 769 = .ok (.iaload, 1) := by decide +kernel
theorem dL_law_770 : decode cL_law 770 = .ok (.invokevirtual 89, 3) := by decide +kernel
theorem dL_law_773 : decode cL_law 773 = .ok (.aload_n 2, 1) := by decide +kernel
theorem dL_law_774 : decode cL_law 774 = .ok (.aload_n 0, 1) := by decide +kernel
theorem dL_law_775 : decode cL_law 775 = .ok (.iload_n 3, 1) := by decide +kernel
theorem dL_law_776 : decode cL_law 776 = .ok (.iconst 1, 1) := by decide +kernel
theorem dL_law_777 : decode cL_law 777 = .ok (.iadd, 1) := by decide +kernel
theorem dL_law_778 : decode cL_law 778 = .ok (.iaload, 1) := by decide +kernel
theorem dL_law_779 : decode cL_law 779 = .ok (.invokevirtual 92, 3) := by decide +kernel
theorem dL_law_782 : decode cL_law 782 = .ok (.if_icmp .eq 647, 3) := by decide +kernel
theorem dL_law_785 : decode cL_law 785 = .ok (.iconst 0, 1) := by decide +kernel
theorem dL_law_786 : decode cL_law 786 = .ok (.ireturn, 1) := by decide +kernel
theorem dL_law_787 : decode cL_law 787 = .ok (.aload_n 1, 1) := by decide +kernel
theorem dL_law_788 : decode cL_law 788 = .ok (.aload_n 0, 1) := by decide +kernel
theorem dL_law_789 : decode cL_law 789 = .ok (.iload_n 3, 1) := by decide +kernel
theorem dL_law_790 : decode cL_law 790 = .ok (.iconst 1, 1) := by decide +kernel
theorem dL_law_791 : decode cL_law 791 = .ok (.iadd, 1) := by decide +kernel
theorem dL_law_792 : decode cL_law 792 = .ok (.iaload, 1) := by decide +kernel
theorem dL_law_793 : decode cL_law 793 = .ok (.invokevirtual 93, 3) := by decide +kernel
theorem dL_law_796 : decode cL_law 796 = .ok (.aload_n 2, 1) := by decide +kernel
theorem dL_law_797 : decode cL_law 797 = .ok (.aload_n 0, 1) := by decide +kernel
theorem dL_law_798 : decode cL_law 798 = .ok (.iload_n 3, 1) := by decide +kernel
theorem dL_law_799 : decode cL_law 799 = .ok (.iconst 1, 1) := by decide +kernel
theorem dL_law_800 : decode cL_law 800 = .ok (.iadd, 1) := by decide +kernel
theorem dL_law_801 : decode cL_law 801 = .ok (.iaload, 1) := by decide +kernel
theorem dL_law_802 : decode cL_law 802 = .ok (.invokevirtual 96, 3) := by decide +kernel
theorem dL_law_805 : decode cL_law 805 = .ok (.if_icmp .eq 624, 3) := by decide +kernel
theorem dL_law_808 : decode cL_law 808 = .ok (.iconst 0, 1) := by decide +kernel
theorem dL_law_809 : decode cL_law 809 = .ok (.ireturn, 1) := by decide +kernel
theorem dL_law_810 : decode cL_law 810 = .ok (.aload_n 1, 1) := by decide +kernel
theorem dL_law_811 : decode cL_law 811 = .ok (.aload_n 0, 1) := by decide +kernel
theorem dL_law_812 : decode cL_law 812 = .ok (.iload_n 3, 1) := by decide +kernel
theorem dL_law_813 : decode cL_law 813 = .ok (.iconst 1, 1) := by decide +kernel
theorem dL_law_814 : decode cL_law 814 = .ok (.iadd, 1) := by decide +kernel
theorem dL_law_815 : decode cL_law 815 = .ok (.iaload, 1) := by decide +kernel
theorem dL_law_816 : decode cL_law 816 = .ok (.invokevirtual 97, 3) := by decide +kernel
theorem dL_law_819 : decode cL_law 819 = .ok (.aload_n 2, 1) := by decide +kernel
theorem dL_law_820 : decode cL_law 820 = .ok (.aload_n 0, 1) := by decide +kernel
theorem dL_law_821 : decode cL_law 821 = .ok (.iload_n 3, 1) := by decide +kernel
theorem dL_law_822 : decode cL_law 822 = .ok (.iconst 1, 1) := by decide +kernel
theorem dL_law_823 : decode cL_law 823 = .ok (.iadd, 1) := by decide +kernel
theorem dL_law_824 : decode cL_law 824 = .ok (.iaload, 1) := by decide +kernel
theorem dL_law_825 : decode cL_law 825 = .ok (.invokevirtual 100, 3) := by decide +kernel
theorem dL_law_828 : decode cL_law 828 = .ok (.if_icmp .eq 601, 3) := by decide +kernel
theorem dL_law_831 : decode cL_law 831 = .ok (.iconst 0, 1) := by decide +kernel
theorem dL_law_832 : decode cL_law 832 = .ok (.ireturn, 1) := by decide +kernel
theorem dL_law_833 : decode cL_law 833 = .ok (.aload_n 1, 1) := by decide +kernel
theorem dL_law_834 : decode cL_law 834 = .ok (.aload_n 0, 1) := by decide +kernel
theorem dL_law_835 : decode cL_law 835 = .ok (.iload_n 3, 1) := by decide +kernel
theorem dL_law_836 : decode cL_law 836 = .ok (.iconst 1, 1) := by decide +kernel
theorem dL_law_837 : decode cL_law 837 = .ok (.iadd, 1) := by decide +kernel
theorem dL_law_838 : decode cL_law 838 = .ok (.iaload, 1) := by decide +kernel
theorem dL_law_839 : decode cL_law 839 = .ok (.invokevirtual 101, 3) := by decide +kernel
theorem dL_law_842 : decode cL_law 842 = .ok (.aload_n 2, 1) := by decide +kernel
theorem dL_law_843 : decode cL_law 843 = .ok (.aload_n 0, 1) := by decide +kernel
theorem dL_law_844 : decode cL_law 844 = .ok (.iload_n 3, 1) := by decide +kernel
theorem dL_law_845 : decode cL_law 845 = .ok (.iconst 1, 1) := by decide +kernel
theorem dL_law_846 : decode cL_law 846 = .ok (.iadd, 1) := by decide +kernel
theorem dL_law_847 : decode cL_law 847 = .ok (.iaload, 1) := by decide +kernel
theorem dL_law_848 : decode cL_law 848 = .ok (.invokevirtual 104, 3) := by decide +kernel
theorem dL_law_851 : decode cL_law 851 = .ok (.if_icmp .eq 578, 3) := by decide +kernel
theorem dL_law_854 : decode cL_law 854 = .ok (.iconst 0, 1) := by decide +kernel
theorem dL_law_855 : decode cL_law 855 = .ok (.ireturn, 1) := by decide +kernel
theorem dL_law_856 : decode cL_law 856 = .ok (.aload_n 1, 1) := by decide +kernel
theorem dL_law_857 : decode cL_law 857 = .ok (.aload_n 0, 1) := by decide +kernel
theorem dL_law_858 : decode cL_law 858 = .ok (.iload_n 3, 1) := by decide +kernel
theorem dL_law_859 : decode cL_law 859 = .ok (.iconst 1, 1) := by decide +kernel
theorem dL_law_860 : decode cL_law 860 = .ok (.iadd, 1) := by decide +kernel
theorem dL_law_861 : decode cL_law 861 = .ok (.iaload, 1) := by decide +kernel
theorem dL_law_862 : decode cL_law 862 = .ok (.invokevirtual 105, 3) := by decide +kernel
theorem dL_law_865 : decode cL_law 865 = .ok (.aload_n 2, 1) := by decide +kernel
theorem dL_law_866 : decode cL_law 866 = .ok (.aload_n 0, 1) := by decide +kernel
theorem dL_law_867 : decode cL_law 867 = .ok (.iload_n 3, 1) := by decide +kernel
theorem dL_law_868 : decode cL_law 868 = .ok (.iconst 1, 1) := by decide +kernel
theorem dL_law_869 : decode cL_law 869 = .ok (.iadd, 1) := by decide +kernel
theorem dL_law_870 : decode cL_law 870 = .ok (.iaload, 1) := by decide +kernel
theorem dL_law_871 : decode cL_law 871 = .ok (.invokevirtual 108, 3) := by decide +kernel
theorem dL_law_874 : decode cL_law 874 = .ok (.if_icmp .eq 555, 3) := by decide +kernel
theorem dL_law_877 : decode cL_law 877 = .ok (.iconst 0, 1) := by decide +kernel
theorem dL_law_878 : decode cL_law 878 = .ok (.ireturn, 1) := by decide +kernel
theorem dL_law_879 : decode cL_law 879 = .ok (.aload_n 1, 1) := by decide +kernel
theorem dL_law_880 : decode cL_law 880 = .ok (.aload_n 0, 1) := by decide +kernel
theorem dL_law_881 : decode cL_law 881 = .ok (.iload_n 3, 1) := by decide +kernel
theorem dL_law_882 : decode cL_law 882 = .ok (.iconst 1, 1) := by decide +kernel
theorem dL_law_883 : decode cL_law 883 = .ok (.iadd, 1) := by decide +kernel
theorem dL_law_884 : decode cL_law 884 = .ok (.iaload, 1) := by decide +kernel
theorem dL_law_885 : decode cL_law 885 = .ok (.invokevirtual 109, 3) := by decide +kernel
theorem dL_law_888 : decode cL_law 888 = .ok (.aload_n 2, 1) := by decide +kernel
theorem dL_law_889 : decode cL_law 889 = .ok (.aload_n 0, 1) := by decide +kernel
theorem dL_law_890 : decode cL_law 890 = .ok (.iload_n 3, 1) := by decide +kernel
theorem dL_law_891 : decode cL_law 891 = .ok (.iconst 1, 1) := by decide +kernel
theorem dL_law_892 : decode cL_law 892 = .ok (.iadd, 1) := by decide +kernel
theorem dL_law_893 : decode cL_law 893 = .ok (.iaload, 1) := by decide +kernel
theorem dL_law_894 : decode cL_law 894 = .ok (.invokevirtual 112, 3) := by decide +kernel
theorem dL_law_897 : decode cL_law 897 = .ok (.if_icmp .eq 532, 3) := by decide +kernel
theorem dL_law_900 : decode cL_law 900 = .ok (.iconst 0, 1) := by decide +kernel
theorem dL_law_901 : decode cL_law 901 = .ok (.ireturn, 1) := by decide +kernel
theorem dL_law_902 : decode cL_law 902 = .ok (.aload_n 1, 1) := by decide +kernel
theorem dL_law_903 : decode cL_law 903 = .ok (.aload_n 0, 1) := by decide +kernel
theorem dL_law_904 : decode cL_law 904 = .ok (.iload_n 3, 1) := by decide +kernel
theorem dL_law_905 : decode cL_law 905 = .ok (.iconst 1, 1) := by decide +kernel
theorem dL_law_906 : decode cL_law 906 = .ok (.iadd, 1) := by decide +kernel
theorem dL_law_907 : decode cL_law 907 = .ok (.iaload, 1) := by decide +kernel
theorem dL_law_908 : decode cL_law 908 = .ok (.aload_n 0, 1) := by decide +kernel
theorem dL_law_909 : decode cL_law 909 = .ok (.iload_n 3, 1) := by decide +kernel
theorem dL_law_910 : decode cL_law 910 = .ok (.iconst 2, 1) := by decide +kernel
theorem dL_law_911 : decode cL_law 911 = .ok (.iadd, 1) := by decide +kernel
theorem dL_law_912 : decode cL_law 912 = .ok (.iaload, 1) := by decide +kernel
theorem dL_law_913 : decode cL_law 913 = .ok (.invokevirtual 113, 3) := by decide +kernel
theorem dL_law_916 : decode cL_law 916 = .ok (.aload_n 2, 1) := by decide +kernel
theorem dL_law_917 : decode cL_law 917 = .ok (.aload_n 0, 1) := by decide +kernel
theorem dL_law_918 : decode cL_law 918 = .ok (.iload_n 3, 1) := by decide +kernel
theorem dL_law_919 : decode cL_law 919 = .ok (.iconst 1, 1) := by decide +kernel
theorem dL_law_920 : decode cL_law 920 = .ok (.iadd, 1) := by decide +kernel
theorem dL_law_921 : decode cL_law 921 = .ok (.iaload, 1) := by decide +kernel
theorem dL_law_922 : decode cL_law 922 = .ok (.aload_n 0, 1) := by decide +kernel
theorem dL_law_923 : decode cL_law 923 = .ok (.iload_n 3, 1) := by decide +kernel
theorem dL_law_924 : decode cL_law 924 = .ok (.iconst 2, 1) := by decide +kernel
theorem dL_law_925 : decode cL_law 925 = .ok (.iadd, 1) := by decide +kernel
theorem dL_law_926 : decode cL_law 926 = .ok (.iaload, 1) := by decide +kernel
theorem dL_law_927 : decode cL_law 927 = .ok (.invokevirtual 116, 3) := by decide +kernel
theorem dL_law_930 : decode cL_law 930 = .ok (.if_icmp .eq 499, 3) := by decide +kernel
theorem dL_law_933 : decode cL_law 933 = .ok (.iconst 0, 1) := by decide +kernel
theorem dL_law_934 : decode cL_law 934 = .ok (.ireturn, 1) := by decide +kernel
theorem dL_law_935 : decode cL_law 935 = .ok (.aload_n 1, 1) := by decide +kernel
theorem dL_law_936 : decode cL_law 936 = .ok (.aload_n 0, 1) := by decide +kernel
theorem dL_law_937 : decode cL_law 937 = .ok (.iload_n 3, 1) := by decide +kernel
theorem dL_law_938 : decode cL_law 938 = .ok (.iconst 1, 1) := by decide +kernel
theorem dL_law_939 : decode cL_law 939 = .ok (.iadd, 1) := by decide +kernel
theorem dL_law_940 : decode cL_law 940 = .ok (.iaload, 1) := by decide +kernel
theorem dL_law_941 : decode cL_law 941 = .ok (.invokevirtual 117, 3) := by decide +kernel
theorem dL_law_944 : decode cL_law 944 = .ok (.aload_n 2, 1) := by decide +kernel
theorem dL_law_945 : decode cL_law 945 = .ok (.aload_n 0, 1) := by decide +kernel
theorem dL_law_946 : decode cL_law 946 = .ok (.iload_n 3, 1) := by decide +kernel
theorem dL_law_947 : decode cL_law 947 = .ok (.iconst 1, 1) := by decide +kernel
theorem dL_law_948 : decode cL_law 948 = .ok (.iadd, 1) := by decide +kernel
theorem dL_law_949 : decode cL_law 949 = .ok (.iaload, 1) := by decide +kernel
theorem dL_law_950 : decode cL_law 950 = .ok (.invokevirtual 120, 3) := by decide +kernel
theorem dL_law_953 : decode cL_law 953 = .ok (.if_icmp .eq 476, 3) := by decide +kernel
theorem dL_law_956 : decode cL_law 956 = .ok (.iconst 0, 1) := by decide +kernel
theorem dL_law_957 : decode cL_law 957 = .ok (.ireturn, 1) := by decide +kernel
theorem dL_law_958 : decode cL_law 958 = .ok (.aload_n 1, 1) := by decide +kernel
theorem dL_law_959 : decode cL_law 959 = .ok (.aload_n 0, 1) := by decide +kernel
theorem dL_law_960 : decode cL_law 960 = .ok (.iload_n 3, 1) := by decide +kernel
theorem dL_law_961 : decode cL_law 961 = .ok (.iconst 1, 1) := by decide +kernel
theorem dL_law_962 : decode cL_law 962 = .ok (.iadd, 1) := by decide +kernel
theorem dL_law_963 : decode cL_law 963 = .ok (.iaload, 1) := by decide +kernel
theorem dL_law_964 : decode cL_law 964 = .ok (.aload_n 0, 1) := by decide +kernel
theorem dL_law_965 : decode cL_law 965 = .ok (.iload_n 3, 1) := by decide +kernel
theorem dL_law_966 : decode cL_law 966 = .ok (.iconst 2, 1) := by decide +kernel
theorem dL_law_967 : decode cL_law 967 = .ok (.iadd, 1) := by decide +kernel
theorem dL_law_968 : decode cL_law 968 = .ok (.iaload, 1) := by decide +kernel
theorem dL_law_969 : decode cL_law 969 = .ok (.invokevirtual 121, 3) := by decide +kernel
theorem dL_law_972 : decode cL_law 972 = .ok (.aload_n 2, 1) := by decide +kernel
theorem dL_law_973 : decode cL_law 973 = .ok (.aload_n 0, 1) := by decide +kernel
theorem dL_law_974 : decode cL_law 974 = .ok (.iload_n 3, 1) := by decide +kernel
theorem dL_law_975 : decode cL_law 975 = .ok (.iconst 1, 1) := by decide +kernel
theorem dL_law_976 : decode cL_law 976 = .ok (.iadd, 1) := by decide +kernel
theorem dL_law_977 : decode cL_law 977 = .ok (.iaload, 1) := by decide +kernel
theorem dL_law_978 : decode cL_law 978 = .ok (.aload_n 0, 1) := by decide +kernel
theorem dL_law_979 : decode cL_law 979 = .ok (.iload_n 3, 1) := by decide +kernel
theorem dL_law_980 : decode cL_law 980 = .ok (.iconst 2, 1) := by decide +kernel
theorem dL_law_981 : decode cL_law 981 = .ok (.iadd, 1) := by decide +kernel
theorem dL_law_982 : decode cL_law 982 = .ok (.iaload, 1) := by decide +kernel
theorem dL_law_983 : decode cL_law 983 = .ok (.invokevirtual 124, 3) := by decide +kernel
theorem dL_law_986 : decode cL_law 986 = .ok (.if_icmp .eq 443, 3) := by decide +kernel
theorem dL_law_989 : decode cL_law 989 = .ok (.iconst 0, 1) := by decide +kernel
theorem dL_law_990 : decode cL_law 990 = .ok (.ireturn, 1) := by decide +kernel
theorem dL_law_991 : decode cL_law 991 = .ok (.aload_n 1, 1) := by decide +kernel
theorem dL_law_992 : decode cL_law 992 = .ok (.aload_n 0, 1) := by decide +kernel
theorem dL_law_993 : decode cL_law 993 = .ok (.iload_n 3, 1) := by decide +kernel
theorem dL_law_994 : decode cL_law 994 = .ok (.iconst 1, 1) := by decide +kernel
theorem dL_law_995 : decode cL_law 995 = .ok (.iadd, 1) := by decide +kernel
theorem dL_law_996 : decode cL_law 996 = .ok (.iaload, 1) := by decide +kernel
theorem dL_law_997 : decode cL_law 997 = .ok (.invokevirtual 125, 3) := by decide +kernel
theorem dL_law_1000 : decode cL_law 1000 = .ok (.aload_n 2, 1) := by decide +kernel
theorem dL_law_1001 : decode cL_law 1001 = .ok (.aload_n 0, 1) := by decide +kernel
theorem dL_law_1002 : decode cL_law 1002 = .ok (.iload_n 3, 1) := by decide +kernel
theorem dL_law_1003 : decode cL_law 1003 = .ok (.iconst 1, 1) := by decide +kernel
theorem dL_law_1004 : decode cL_law 1004 = .ok (.iadd, 1) := by decide +kernel
theorem dL_law_1005 : decode cL_law 1005 = .ok (.iaload, 1) := by decide +kernel
theorem dL_law_1006 : decode cL_law 1006 = .ok (.invokevirtual 128, 3) := by decide +kernel
theorem dL_law_1009 : decode cL_law 1009 = .ok (.if_icmp .eq 420, 3) := by decide +kernel
theorem dL_law_1012 : decode cL_law 1012 = .ok (.iconst 0, 1) := by decide +kernel
theorem dL_law_1013 : decode cL_law 1013 = .ok (.ireturn, 1) := by decide +kernel
theorem dL_law_1014 : decode cL_law 1014 = .ok (.aload_n 1, 1) := by decide +kernel
theorem dL_law_1015 : decode cL_law 1015 = .ok (.aload_n 0, 1) := by decide +kernel
theorem dL_law_1016 : decode cL_law 1016 = .ok (.iload_n 3, 1) := by decide +kernel
theorem dL_law_1017 : decode cL_law 1017 = .ok (.iconst 1, 1) := by decide +kernel
theorem dL_law_1018 : decode cL_law 1018 = .ok (.iadd, 1) := by decide +kernel
theorem dL_law_1019 : decode cL_law 1019 = .ok (.iaload, 1) := by decide +kernel
theorem dL_law_1020 : decode cL_law 1020 = .ok (.aload_n 0, 1) := by decide +kernel
theorem dL_law_1021 : decode cL_law 1021 = .ok (.iload_n 3, 1) := by decide +kernel
theorem dL_law_1022 : decode cL_law 1022 = .ok (.iconst 2, 1) := by decide +kernel
theorem dL_law_1023 : decode cL_law 1023 = .ok (.iadd, 1) := by decide +kernel
theorem dL_law_1024 : decode cL_law 1024 = .ok (.iaload, 1) := by decide +kernel
theorem dL_law_1025 : decode cL_law 1025 = .ok (.invokevirtual 129, 3) := by decide +kernel
theorem dL_law_1028 : decode cL_law 1028 = .ok (.aload_n 2, 1) := by decide +kernel
theorem dL_law_1029 : decode cL_law 1029 = .ok (.aload_n 0, 1) := by decide +kernel
theorem dL_law_1030 : decode cL_law 1030 = .ok (.iload_n 3, 1) := by decide +kernel
theorem dL_law_1031 : decode cL_law 1031 = .ok (.iconst 1, 1) := by decide +kernel
theorem dL_law_1032 : decode cL_law 1032 = .ok (.iadd, 1) := by decide +kernel
theorem dL_law_1033 : decode cL_law 1033 = .ok (.iaload, 1) := by decide +kernel
theorem dL_law_1034 : decode cL_law 1034 = .ok (.aload_n 0, 1) := by decide +kernel
theorem dL_law_1035 : decode cL_law 1035 = .ok (.iload_n 3, 1) := by decide +kernel
theorem dL_law_1036 : decode cL_law 1036 = .ok (.iconst 2, 1) := by decide +kernel
theorem dL_law_1037 : decode cL_law 1037 = .ok (.iadd, 1) := by decide +kernel
theorem dL_law_1038 : decode cL_law 1038 = .ok (.iaload, 1) := by decide +kernel
theorem dL_law_1039 : decode cL_law 1039 = .ok (.invokevirtual 132, 3) := by decide +kernel
theorem dL_law_1042 : decode cL_law 1042 = .ok (.if_icmp .eq 387, 3) := by decide +kernel
theorem dL_law_1045 : decode cL_law 1045 = .ok (.iconst 0, 1) := by decide +kernel
theorem dL_law_1046 : decode cL_law 1046 = .ok (.ireturn, 1) := by decide +kernel
theorem dL_law_1047 : decode cL_law 1047 = .ok (.aload_n 1, 1) := by decide +kernel
theorem dL_law_1048 : decode cL_law 1048 = .ok (.invokevirtual 133, 3) := by decide +kernel
theorem dL_law_1051 : decode cL_law 1051 = .ok (.aload_n 2, 1) := by decide +kernel
theorem dL_law_1052 : decode cL_law 1052 = .ok (.invokevirtual 136, 3) := by decide +kernel
theorem dL_law_1055 : decode cL_law 1055 = .ok (.if_icmp .eq 374, 3) := by decide +kernel
theorem dL_law_1058 : decode cL_law 1058 = .ok (.iconst 0, 1) := by decide +kernel
theorem dL_law_1059 : decode cL_law 1059 = .ok (.ireturn, 1) := by decide +kernel
theorem dL_law_1060 : decode cL_law 1060 = .ok (.aload_n 1, 1) := by decide +kernel
theorem dL_law_1061 : decode cL_law 1061 = .ok (.invokevirtual 137, 3) := by decide +kernel
theorem dL_law_1064 : decode cL_law 1064 = .ok (.aload_n 2, 1) := by decide +kernel
theorem dL_law_1065 : decode cL_law 1065 = .ok (.invokevirtual 140, 3) := by decide +kernel
theorem dL_law_1068 : decode cL_law 1068 = .ok (.if_icmp .eq 361, 3) := by decide +kernel
theorem dL_law_1071 : decode cL_law 1071 = .ok (.iconst 0, 1) := by decide +kernel
theorem dL_law_1072 : decode cL_law 1072 = .ok (.ireturn, 1) := by decide +kernel
theorem dL_law_1073 : decode cL_law 1073 = .ok (.aload_n 1, 1) := by decide +kernel
theorem dL_law_1074 : decode cL_law 1074 = .ok (.aload_n 0, 1) := by decide +kernel
theorem dL_law_1075 : decode cL_law 1075 = .ok (.iload_n 3, 1) := by decide +kernel
theorem dL_law_1076 : decode cL_law 1076 = .ok (.iconst 1, 1) := by decide +kernel
theorem dL_law_1077 : decode cL_law 1077 = .ok (.iadd, 1) := by decide +kernel
theorem dL_law_1078 : decode cL_law 1078 = .ok (.iaload, 1) := by decide +kernel
theorem dL_law_1079 : decode cL_law 1079 = .ok (.aload_n 0, 1) := by decide +kernel
theorem dL_law_1080 : decode cL_law 1080 = .ok (.iload_n 3, 1) := by decide +kernel
theorem dL_law_1081 : decode cL_law 1081 = .ok (.iconst 2, 1) := by decide +kernel
theorem dL_law_1082 : decode cL_law 1082 = .ok (.iadd, 1) := by decide +kernel
theorem dL_law_1083 : decode cL_law 1083 = .ok (.iaload, 1) := by decide +kernel
theorem dL_law_1084 : decode cL_law 1084 = .ok (.invokevirtual 141, 3) := by decide +kernel
theorem dL_law_1087 : decode cL_law 1087 = .ok (.aload_n 2, 1) := by decide +kernel
theorem dL_law_1088 : decode cL_law 1088 = .ok (.aload_n 0, 1) := by decide +kernel
theorem dL_law_1089 : decode cL_law 1089 = .ok (.iload_n 3, 1) := by decide +kernel
theorem dL_law_1090 : decode cL_law 1090 = .ok (.iconst 1, 1) := by decide +kernel
theorem dL_law_1091 : decode cL_law 1091 = .ok (.iadd, 1) := by decide +kernel
theorem dL_law_1092 : decode cL_law 1092 = .ok (.iaload, 1) := by decide +kernel
theorem dL_law_1093 : decode cL_law 1093 = .ok (.aload_n 0, 1) := by decide +kernel
theorem dL_law_1094 : decode cL_law 1094 = .ok (.iload_n 3, 1) := by decide +kernel
theorem dL_law_1095 : decode cL_law 1095 = .ok (.iconst 2, 1) := by decide +kernel
theorem dL_law_1096 : decode cL_law 1096 = .ok (.iadd, 1) := by decide +kernel
theorem dL_law_1097 : decode cL_law 1097 = .ok (.iaload, 1) := by decide +kernel
theorem dL_law_1098 : decode cL_law 1098 = .ok (.invokevirtual 144, 3) := by decide +kernel
theorem dL_law_1101 : decode cL_law 1101 = .ok (.if_icmp .eq 328, 3) := by decide +kernel
theorem dL_law_1104 : decode cL_law 1104 = .ok (.iconst 0, 1) := by decide +kernel
theorem dL_law_1105 : decode cL_law 1105 = .ok (.ireturn, 1) := by decide +kernel
theorem dL_law_1106 : decode cL_law 1106 = .ok (.aload_n 1, 1) := by decide +kernel
theorem dL_law_1107 : decode cL_law 1107 = .ok (.aload_n 0, 1) := by decide +kernel
theorem dL_law_1108 : decode cL_law 1108 = .ok (.iload_n 3, 1) := by decide +kernel
theorem dL_law_1109 : decode cL_law 1109 = .ok (.iconst 1, 1) := by decide +kernel
theorem dL_law_1110 : decode cL_law 1110 = .ok (.iadd, 1) := by decide +kernel
theorem dL_law_1111 : decode cL_law 1111 = .ok (.iaload, 1) := by decide +kernel
theorem dL_law_1112 : decode cL_law 1112 = .ok (.aload_n 0, 1) := by decide +kernel
theorem dL_law_1113 : decode cL_law 1113 = .ok (.iload_n 3, 1) := by decide +kernel
theorem dL_law_1114 : decode cL_law 1114 = .ok (.iconst 2, 1) := by decide +kernel
theorem dL_law_1115 : decode cL_law 1115 = .ok (.iadd, 1) := by decide +kernel
theorem dL_law_1116 : decode cL_law 1116 = .ok (.iaload, 1) := by decide +kernel
theorem dL_law_1117 : decode cL_law 1117 = .ok (.invokevirtual 145, 3) := by decide +kernel
theorem dL_law_1120 : decode cL_law 1120 = .ok (.aload_n 2, 1) := by decide +kernel
theorem dL_law_1121 : decode cL_law 1121 = .ok (.aload_n 0, 1) := by decide +kernel
theorem dL_law_1122 : decode cL_law 1122 = .ok (.iload_n 3, 1) := by decide +kernel
theorem dL_law_1123 : decode cL_law 1123 = .ok (.iconst 1, 1) := by decide +kernel
theorem dL_law_1124 : decode cL_law 1124 = .ok (.iadd, 1) := by decide +kernel
theorem dL_law_1125 : decode cL_law 1125 = .ok (.iaload, 1) := by decide +kernel
theorem dL_law_1126 : decode cL_law 1126 = .ok (.aload_n 0, 1) := by decide +kernel
theorem dL_law_1127 : decode cL_law 1127 = .ok (.iload_n 3, 1) := by decide +kernel
theorem dL_law_1128 : decode cL_law 1128 = .ok (.iconst 2, 1) := by decide +kernel
theorem dL_law_1129 : decode cL_law 1129 = .ok (.iadd, 1) := by decide +kernel
theorem dL_law_1130 : decode cL_law 1130 = .ok (.iaload, 1) := by decide +kernel
theorem dL_law_1131 : decode cL_law 1131 = .ok (.invokevirtual 148, 3) := by decide +kernel
theorem dL_law_1134 : decode cL_law 1134 = .ok (.if_icmp .eq 295, 3) := by decide +kernel
theorem dL_law_1137 : decode cL_law 1137 = .ok (.iconst 0, 1) := by decide +kernel
theorem dL_law_1138 : decode cL_law 1138 = .ok (.ireturn, 1) := by decide +kernel
theorem dL_law_1139 : decode cL_law 1139 = .ok (.aload_n 1, 1) := by decide +kernel
theorem dL_law_1140 : decode cL_law 1140 = .ok (.aload_n 0, 1) := by decide +kernel
theorem dL_law_1141 : decode cL_law 1141 = .ok (.iload_n 3, 1) := by decide +kernel
theorem dL_law_1142 : decode cL_law 1142 = .ok (.iconst 1, 1) := by decide +kernel
theorem dL_law_1143 : decode cL_law 1143 = .ok (.iadd, 1) := by decide +kernel
theorem dL_law_1144 : decode cL_law 1144 = .ok (.iaload, 1) := by decide +kernel
theorem dL_law_1145 : decode cL_law 1145 = .ok (.aload_n 0, 1) := by decide +kernel
theorem dL_law_1146 : decode cL_law 1146 = .ok (.iload_n 3, 1) := by decide +kernel
theorem dL_law_1147 : decode cL_law 1147 = .ok (.iconst 2, 1) := by decide +kernel
theorem dL_law_1148 : decode cL_law 1148 = .ok (.iadd, 1) := by decide +kernel
theorem dL_law_1149 : decode cL_law 1149 = .ok (.iaload, 1) := by decide +kernel
theorem dL_law_1150 : decode cL_law 1150 = .ok (.aload_n 0, 1) := by decide +kernel
theorem dL_law_1151 : decode cL_law 1151 = .ok (.iload_n 3, 1) := by decide +kernel
theorem dL_law_1152 : decode cL_law 1152 = .ok (.iconst 3, 1) := by decide +kernel
theorem dL_law_1153 : decode cL_law 1153 = .ok (.iadd, 1) := by decide +kernel
theorem dL_law_1154 : decode cL_law 1154 = .ok (.iaload, 1) := by decide +kernel
theorem dL_law_1155 : decode cL_law 1155 = .ok (.invokevirtual 149, 3) := by decide +kernel
theorem dL_law_1158 : decode cL_law 1158 = .ok (.aload_n 2, 1) := by decide +kernel
theorem dL_law_1159 : decode cL_law 1159 = .ok (.aload_n 0, 1) := by decide +kernel
theorem dL_law_1160 : decode cL_law 1160 = .ok (.iload_n 3, 1) := by decide +kernel
theorem dL_law_1161 : decode cL_law 1161 = .ok (.iconst 1, 1) := by decide +kernel
theorem dL_law_1162 : decode cL_law 1162 = .ok (.iadd, 1) := by decide +kernel
theorem dL_law_1163 : decode cL_law 1163 = .ok (.iaload, 1) := by decide +kernel
theorem dL_law_1164 : decode cL_law 1164 = .ok (.aload_n 0, 1) := by decide +kernel
theorem dL_law_1165 : decode cL_law 1165 = .ok (.iload_n 3, 1) := by decide +kernel
theorem dL_law_1166 : decode cL_law 1166 = .ok (.iconst 2, 1) := by decide +kernel
theorem dL_law_1167 : decode cL_law 1167 = .ok (.iadd, 1) := by decide +kernel
theorem dL_law_1168 : decode cL_law 1168 = .ok (.iaload, 1) := by decide +kernel
theorem dL_law_1169 : decode cL_law 1169 = .ok (.aload_n 0, 1) := by decide +kernel
theorem dL_law_1170 : decode cL_law 1170 = .ok (.iload_n 3, 1) := by decide +kernel
theorem dL_law_1171 : decode cL_law 1171 = .ok (.iconst 3, 1) := by decide +kernel
theorem dL_law_1172 : decode cL_law 1172 = .ok (.iadd, 1) := by decide +kernel
theorem dL_law_1173 : decode cL_law 1173 = .ok (.iaload, 1) := by decide +kernel
theorem dL_law_1174 : decode cL_law 1174 = .ok (.invokevirtual 152, 3) := by decide +kernel
theorem dL_law_1177 : decode cL_law 1177 = .ok (.if_icmp .eq 252, 3) := by decide +kernel
theorem dL_law_1180 : decode cL_law 1180 = .ok (.iconst 0, 1) := by decide +kernel
theorem dL_law_1181 : decode cL_law 1181 = .ok (.ireturn, 1) := by decide +kernel
theorem dL_law_1182 : decode cL_law 1182 = .ok (.aload_n 1, 1) := by decide +kernel
theorem dL_law_1183 : decode cL_law 1183 = .ok (.aload_n 0, 1) := by decide +kernel
theorem dL_law_1184 : decode cL_law 1184 = .ok (.iload_n 3, 1) := by decide +kernel
theorem dL_law_1185 : decode cL_law 1185 = .ok (.iconst 1, 1) := by decide +kernel
theorem dL_law_1186 : decode cL_law 1186 = .ok (.iadd, 1) := by decide +kernel
theorem dL_law_1187 : decode cL_law 1187 = .ok (.iaload, 1) := by decide +kernel
theorem dL_law_1188 : decode cL_law 1188 = .ok (.aload_n 0, 1) := by decide +kernel
theorem dL_law_1189 : decode cL_law 1189 = .ok (.iload_n 3, 1) := by decide +kernel
theorem dL_law_1190 : decode cL_law 1190 = .ok (.iconst 2, 1) := by decide +kernel
theorem dL_law_1191 : decode cL_law 1191 = .ok (.iadd, 1) := by decide +kernel
theorem dL_law_1192 : decode cL_law 1192 = .ok (.iaload, 1) := by decide +kernel
theorem dL_law_1193 : decode cL_law 1193 = .ok (.aload_n 0, 1) := by decide +kernel
theorem dL_law_1194 : decode cL_law 1194 = .ok (.iload_n 3, 1) := by decide +kernel
theorem dL_law_1195 : decode cL_law 1195 = .ok (.iconst 3, 1) := by decide +kernel
theorem dL_law_1196 : decode cL_law 1196 = .ok (.iadd, 1) := by decide +kernel
theorem dL_law_1197 : decode cL_law 1197 = .ok (.iaload, 1) := by decide +kernel
theorem dL_law_1198 : decode cL_law 1198 = .ok (.invokevirtual 153, 3) := by decide +kernel
theorem dL_law_1201 : decode cL_law 1201 = .ok (.aload_n 2, 1) := by decide +kernel
theorem dL_law_1202 : decode cL_law 1202 = .ok (.aload_n 0, 1) := by decide +kernel
theorem dL_law_1203 : decode cL_law 1203 = .ok (.iload_n 3, 1) := by decide +kernel
theorem dL_law_1204 : decode cL_law 1204 = .ok (.iconst 1, 1) := by decide +kernel
theorem dL_law_1205 : decode cL_law 1205 = .ok (.iadd, 1) := by decide +kernel
theorem dL_law_1206 : decode cL_law 1206 = .ok (.iaload, 1) := by decide +kernel
theorem dL_law_1207 : decode cL_law 1207 = .ok (.aload_n 0, 1) := by decide +kernel
theorem dL_law_1208 : decode cL_law 1208 = .ok (.iload_n 3, 1) := by decide +kernel
theorem dL_law_1209 : decode cL_law 1209 = .ok (.iconst 2, 1) := by decide +kernel
theorem dL_law_1210 : decode cL_law 1210 = .ok (.iadd, 1) := by decide +kernel
theorem dL_law_1211 : decode cL_law 1211 = .ok (.iaload, 1) := by decide +kernel
theorem dL_law_1212 : decode cL_law 1212 = .ok (.aload_n 0, 1) := by decide +kernel
theorem dL_law_1213 : decode cL_law 1213 = .ok (.iload_n 3, 1) := by decide +kernel
theorem dL_law_1214 : decode cL_law 1214 = .ok (.iconst 3, 1) := by decide +kernel
theorem dL_law_1215 : decode cL_law 1215 = .ok (.iadd, 1) := by decide +kernel
theorem dL_law_1216 : decode cL_law 1216 = .ok (.iaload, 1) := by decide +kernel
theorem dL_law_1217 : decode cL_law 1217 = .ok (.invokevirtual 156, 3) := by decide +kernel
theorem dL_law_1220 : decode cL_law 1220 = .ok (.if_icmp .eq 209, 3) := by decide +kernel
theorem dL_law_1223 : decode cL_law 1223 = .ok (.iconst 0, 1) := by decide +kernel
theorem dL_law_1224 : decode cL_law 1224 = .ok (.ireturn, 1) := by decide +kernel
theorem dL_law_1225 : decode cL_law 1225 = .ok (.aload_n 1, 1) := by decide +kernel
theorem dL_law_1226 : decode cL_law 1226 = .ok (.aload_n 0, 1) := by decide +kernel
theorem dL_law_1227 : decode cL_law 1227 = .ok (.iload_n 3, 1) := by decide +kernel
theorem dL_law_1228 : decode cL_law 1228 = .ok (.iconst 1, 1) := by decide +kernel
theorem dL_law_1229 : decode cL_law 1229 = .ok (.iadd, 1) := by decide +kernel
theorem dL_law_1230 : decode cL_law 1230 = .ok (.iaload, 1) := by decide +kernel
theorem dL_law_1231 : decode cL_law 1231 = .ok (.aload_n 0, 1) := by decide +kernel
theorem dL_law_1232 : decode cL_law 1232 = .ok (.iload_n 3, 1) := by decide +kernel
theorem dL_law_1233 : decode cL_law 1233 = .ok (.iconst 2, 1) := by decide +kernel
theorem dL_law_1234 : decode cL_law 1234 = .ok (.iadd, 1) := by decide +kernel
theorem dL_law_1235 : decode cL_law 1235 = .ok (.iaload, 1) := by decide +kernel
theorem dL_law_1236 : decode cL_law 1236 = .ok (.aload_n 0, 1) := by decide +kernel
theorem dL_law_1237 : decode cL_law 1237 = .ok (.iload_n 3, 1) := by decide +kernel
theorem dL_law_1238 : decode cL_law 1238 = .ok (.iconst 3, 1) := by decide +kernel
theorem dL_law_1239 : decode cL_law 1239 = .ok (.iadd, 1) := by decide +kernel
theorem dL_law_1240 : decode cL_law 1240 = .ok (.iaload, 1) := by decide +kernel
theorem dL_law_1241 : decode cL_law 1241 = .ok (.aload_n 0, 1) := by decide +kernel
theorem dL_law_1242 : decode cL_law 1242 = .ok (.iload_n 3, 1) := by decide +kernel
theorem dL_law_1243 : decode cL_law 1243 = .ok (.iconst 4, 1) := by decide +kernel
theorem dL_law_1244 : decode cL_law 1244 = .ok (.iadd, 1) := by decide +kernel
theorem dL_law_1245 : decode cL_law 1245 = .ok (.iaload, 1) := by decide +kernel
theorem dL_law_1246 : decode cL_law 1246 = .ok (.aload_n 0, 1) := by decide +kernel
theorem dL_law_1247 : decode cL_law 1247 = .ok (.iload_n 3, 1) := by decide +kernel
theorem dL_law_1248 : decode cL_law 1248 = .ok (.iconst 5, 1) := by decide +kernel
theorem dL_law_1249 : decode cL_law 1249 = .ok (.iadd, 1) := by decide +kernel
theorem dL_law_1250 : decode cL_law 1250 = .ok (.iaload, 1) := by decide +kernel
theorem dL_law_1251 : decode cL_law 1251 = .ok (.invokevirtual 157, 3) := by decide +kernel
theorem dL_law_1254 : decode cL_law 1254 = .ok (.aload_n 2, 1) := by decide +kernel
theorem dL_law_1255 : decode cL_law 1255 = .ok (.aload_n 0, 1) := by decide +kernel
theorem dL_law_1256 : decode cL_law 1256 = .ok (.iload_n 3, 1) := by decide +kernel
theorem dL_law_1257 : decode cL_law 1257 = .ok (.iconst 1, 1) := by decide +kernel
theorem dL_law_1258 : decode cL_law 1258 = .ok (.iadd, 1) := by decide +kernel
theorem dL_law_1259 : decode cL_law 1259 = .ok (.iaload, 1) := by decide +kernel
theorem dL_law_1260 : decode cL_law 1260 = .ok (.aload_n 0, 1) := by decide +kernel
theorem dL_law_1261 : decode cL_law 1261 = .ok (.iload_n 3, 1) := by decide +kernel
theorem dL_law_1262 : decode cL_law 1262 = .ok (.iconst 2, 1) := by decide +kernel
theorem dL_law_1263 : decode cL_law 1263 = .ok (.iadd, 1) := by decide +kernel
theorem dL_law_1264 : decode cL_law 1264 = .ok (.iaload, 1) := by decide +kernel
theorem dL_law_1265 : decode cL_law 1265 = .ok (.aload_n 0, 1) := by decide +kernel
theorem dL_law_1266 : decode cL_law 1266 = .ok (.iload_n 3, 1) := by decide +kernel
theorem dL_law_1267 : decode cL_law 1267 = .ok (.iconst 3, 1) := by decide +kernel
theorem dL_law_1268 : decode cL_law 1268 = .ok (.iadd, 1) := by decide +kernel
theorem dL_law_1269 : decode cL_law 1269 = .ok (.iaload, 1) := by decide +kernel
theorem dL_law_1270 : decode cL_law 1270 = .ok (.aload_n 0, 1) := by decide +kernel
theorem dL_law_1271 : decode cL_law 1271 = .ok (.iload_n 3, 1) := by decide +kernel
theorem dL_law_1272 : decode cL_law 1272 = .ok (.iconst 4, 1) := by decide +kernel
theorem dL_law_1273 : decode cL_law 1273 = .ok (.iadd, 1) := by decide +kernel
theorem dL_law_1274 : decode cL_law 1274 = .ok (.iaload, 1) := by decide +kernel
theorem dL_law_1275 : decode cL_law 1275 = .ok (.aload_n 0, 1) := by decide +kernel
theorem dL_law_1276 : decode cL_law 1276 = .ok (.iload_n 3, 1) := by decide +kernel
theorem dL_law_1277 : decode cL_law 1277 = .ok (.iconst 5, 1) := by decide +kernel
theorem dL_law_1278 : decode cL_law 1278 = .ok (.iadd, 1) := by decide +kernel
theorem dL_law_1279 : decode cL_law 1279 = .ok (.iaload, 1) := by decide +kernel
theorem dL_law_1280 : decode cL_law 1280 = .ok (.invokevirtual 161, 3) := by decide +kernel
theorem dL_law_1283 : decode cL_law 1283 = .ok (.if_icmp .eq 146, 3) := by decide +kernel
theorem dL_law_1286 : decode cL_law 1286 = .ok (.iconst 0, 1) := by decide +kernel
theorem dL_law_1287 : decode cL_law 1287 = .ok (.ireturn, 1) := by decide +kernel
theorem dL_law_1288 : decode cL_law 1288 = .ok (.aload_n 1, 1) := by decide +kernel
theorem dL_law_1289 : decode cL_law 1289 = .ok (.aload_n 0, 1) := by decide +kernel
theorem dL_law_1290 : decode cL_law 1290 = .ok (.iload_n 3, 1) := by decide +kernel
theorem dL_law_1291 : decode cL_law 1291 = .ok (.iconst 1, 1) := by decide +kernel
theorem dL_law_1292 : decode cL_law 1292 = .ok (.iadd, 1) := by decide +kernel
theorem dL_law_1293 : decode cL_law 1293 = .ok (.iaload, 1) := by decide +kernel
theorem dL_law_1294 : decode cL_law 1294 = .ok (.invokevirtual 162, 3) := by decide +kernel
theorem dL_law_1297 : decode cL_law 1297 = .ok (.aload_n 2, 1) := by decide +kernel
theorem dL_law_1298 : decode cL_law 1298 = .ok (.aload_n 0, 1) := by decide +kernel
theorem dL_law_1299 : decode cL_law 1299 = .ok (.iload_n 3, 1) := by decide +kernel
theorem dL_law_1300 : decode cL_law 1300 = .ok (.iconst 1, 1) := by decide +kernel
theorem dL_law_1301 : decode cL_law 1301 = .ok (.iadd, 1) := by decide +kernel
theorem dL_law_1302 : decode cL_law 1302 = .ok (.iaload, 1) := by decide +kernel
theorem dL_law_1303 : decode cL_law 1303 = .ok (.invokevirtual 165, 3) := by decide +kernel
theorem dL_law_1306 : decode cL_law 1306 = .ok (.if_icmp .eq 123, 3) := by decide +kernel
theorem dL_law_1309 : decode cL_law 1309 = .ok (.iconst 0, 1) := by decide +kernel
theorem dL_law_1310 : decode cL_law 1310 = .ok (.ireturn, 1) := by decide +kernel
theorem dL_law_1311 : decode cL_law 1311 = .ok (.aload_n 1, 1) := by decide +kernel
theorem dL_law_1312 : decode cL_law 1312 = .ok (.aload_n 0, 1) := by decide +kernel
theorem dL_law_1313 : decode cL_law 1313 = .ok (.iload_n 3, 1) := by decide +kernel
theorem dL_law_1314 : decode cL_law 1314 = .ok (.iconst 1, 1) := by decide +kernel
theorem dL_law_1315 : decode cL_law 1315 = .ok (.iadd, 1) := by decide +kernel
theorem dL_law_1316 : decode cL_law 1316 = .ok (.iaload, 1) := by decide +kernel
theorem dL_law_1317 : decode cL_law 1317 = .ok (.aload_n 0, 1) := by decide +kernel
theorem dL_law_1318 : decode cL_law 1318 = .ok (.iload_n 3, 1) := by decide +kernel
theorem dL_law_1319 : decode cL_law 1319 = .ok (.iconst 2, 1) := by decide +kernel
theorem dL_law_1320 : decode cL_law 1320 = .ok (.iadd, 1) := by decide +kernel
theorem dL_law_1321 : decode cL_law 1321 = .ok (.iaload, 1) := by decide +kernel
theorem dL_law_1322 : decode cL_law 1322 = .ok (.invokevirtual 166, 3) := by decide +kernel
theorem dL_law_1325 : decode cL_law 1325 = .ok (.aload_n 2, 1) := by decide +kernel
theorem dL_law_1326 : decode cL_law 1326 = .ok (.aload_n 0, 1) := by decide +kernel
theorem dL_law_1327 : decode cL_law 1327 = .ok (.iload_n 3, 1) := by decide +kernel
theorem dL_law_1328 : decode cL_law 1328 = .ok (.iconst 1, 1) := by decide +kernel
theorem dL_law_1329 : decode cL_law 1329 = .ok (.iadd, 1) := by decide +kernel
theorem dL_law_1330 : decode cL_law 1330 = .ok (.iaload, 1) := by decide +kernel
theorem dL_law_1331 : decode cL_law 1331 = .ok (.aload_n 0, 1) := by decide +kernel
theorem dL_law_1332 : decode cL_law 1332 = .ok (.iload_n 3, 1) := by decide +kernel
theorem dL_law_1333 : decode cL_law 1333 = .ok (.iconst 2, 1) := by decide +kernel
theorem dL_law_1334 : decode cL_law 1334 = .ok (.iadd, 1) := by decide +kernel
theorem dL_law_1335 : decode cL_law 1335 = .ok (.iaload, 1) := by decide +kernel
theorem dL_law_1336 : decode cL_law 1336 = .ok (.invokevirtual 169, 3) := by decide +kernel
theorem dL_law_1339 : decode cL_law 1339 = .ok (.if_icmp .eq 90, 3) := by decide +kernel
theorem dL_law_1342 : decode cL_law 1342 = .ok (.iconst 0, 1) := by decide +kernel
theorem dL_law_1343 : decode cL_law 1343 = .ok (.ireturn, 1) := by decide +kernel
theorem dL_law_1344 : decode cL_law 1344 = .ok (.aload_n 1, 1) := by decide +kernel
theorem dL_law_1345 : decode cL_law 1345 = .ok (.invokevirtual 170, 3) := by decide +kernel
theorem dL_law_1348 : decode cL_law 1348 = .ok (.aload_n 2, 1) := by decide +kernel
theorem dL_law_1349 : decode cL_law 1349 = .ok (.invokevirtual 173, 3) := by decide +kernel
theorem dL_law_1352 : decode cL_law 1352 = .ok (.if_icmp .eq 77, 3) := by decide +kernel
theorem dL_law_1355 : decode cL_law 1355 = .ok (.iconst 0, 1) := by decide +kernel
theorem dL_law_1356 : decode cL_law 1356 = .ok (.ireturn, 1) := by decide +kernel
theorem dL_law_1357 : decode cL_law 1357 = .ok (.aload_n 1, 1) := by decide +kernel
theorem dL_law_1358 : decode cL_law 1358 = .ok (.invokevirtual 174, 3) := by decide +kernel
theorem dL_law_1361 : decode cL_law 1361 = .ok (.aload_n 2, 1) := by decide +kernel
theorem dL_law_1362 : decode cL_law 1362 = .ok (.invokevirtual 177, 3) := by decide +kernel
theorem dL_law_1365 : decode cL_law 1365 = .ok (.if_icmp .eq 64, 3) := by decide +kernel
theorem dL_law_1368 : decode cL_law 1368 = .ok (.iconst 0, 1) := by decide +kernel
theorem dL_law_1369 : decode cL_law 1369 = .ok (.ireturn, 1) := by decide +kernel
theorem dL_law_1370 : decode cL_law 1370 = .ok (.aload_n 1, 1) := by decide +kernel
theorem dL_law_1371 : decode cL_law 1371 = .ok (.invokevirtual 178, 3) := by decide +kernel
theorem dL_law_1374 : decode cL_law 1374 = .ok (.aload_n 2, 1) := by decide +kernel
theorem dL_law_1375 : decode cL_law 1375 = .ok (.invokevirtual 181, 3) := by decide +kernel
theorem dL_law_1378 : decode cL_law 1378 = .ok (.if_icmp .eq 51, 3) := by decide +kernel
theorem dL_law_1381 : decode cL_law 1381 = .ok (.iconst 0, 1) := by decide +kernel
theorem dL_law_1382 : decode cL_law 1382 = .ok (.ireturn, 1) := by decide +kernel
theorem dL_law_1383 : decode cL_law 1383 = .ok (.aload_n 1, 1) := by decide +kernel
theorem dL_law_1384 : decode cL_law 1384 = .ok (.aload_n 0, 1) := by decide +kernel
theorem dL_law_1385 : decode cL_law 1385 = .ok (.iload_n 3, 1) := by decide +kernel
theorem dL_law_1386 : decode cL_law 1386 = .ok (.iconst 1, 1) := by decide +kernel
theorem dL_law_1387 : decode cL_law 1387 = .ok (.iadd, 1) := by decide +kernel
theorem dL_law_1388 : decode cL_law 1388 = .ok (.iaload, 1) := by decide +kernel
theorem dL_law_1389 : decode cL_law 1389 = .ok (.invokevirtual 182, 3) := by decide +kernel
theorem dL_law_1392 : decode cL_law 1392 = .ok (.aload_n 2, 1) := by decide +kernel
theorem dL_law_1393 : decode cL_law 1393 = .ok (.aload_n 0, 1) := by decide +kernel
theorem dL_law_1394 : decode cL_law 1394 = .ok (.iload_n 3, 1) := by decide +kernel
theorem dL_law_1395 : decode cL_law 1395 = .ok (.iconst 1, 1) := by decide +kernel
theorem dL_law_1396 : decode cL_law 1396 = .ok (.iadd, 1) := by decide +kernel
theorem dL_law_1397 : decode cL_law 1397 = .ok (.iaload, 1) := by decide +kernel
theorem dL_law_1398 : decode cL_law 1398 = .ok (.invokevirtual 185, 3) := by decide +kernel
theorem dL_law_1401 : decode cL_law 1401 = .ok (.if_icmp .eq 28, 3) := by decide +kernel
theorem dL_law_1404 : decode cL_law 1404 = .ok (.iconst 0, 1) := by decide +kernel
theorem dL_law_1405 : decode cL_law 1405 = .ok (.ireturn, 1) := by decide +kernel
theorem dL_law_1406 : decode cL_law 1406 = .ok (.aload_n 1, 1) := by decide +kernel
theorem dL_law_1407 : decode cL_law 1407 = .ok (.aload_n 0, 1) := by decide +kernel
theorem dL_law_1408 : decode cL_law 1408 = .ok (.iload_n 3, 1) := by decide +kernel
theorem dL_law_1409 : decode cL_law 1409 = .ok (.iconst 1, 1) := by decide +kernel
theorem dL_law_1410 : decode cL_law 1410 = .ok (.iadd, 1) := by decide +kernel
theorem dL_law_1411 : decode cL_law 1411 = .ok (.iaload, 1) := by decide +kernel
theorem dL_law_1412 : decode cL_law 1412 = .ok (.invokevirtual 186, 3) := by decide +kernel
theorem dL_law_1415 : decode cL_law 1415 = .ok (.aload_n 2, 1) := by decide +kernel
theorem dL_law_1416 : decode cL_law 1416 = .ok (.aload_n 0, 1) := by decide +kernel
theorem dL_law_1417 : decode cL_law 1417 = .ok (.iload_n 3, 1) := by decide +kernel
theorem dL_law_1418 : decode cL_law 1418 = .ok (.iconst 1, 1) := by decide +kernel
theorem dL_law_1419 : decode cL_law 1419 = .ok (.iadd, 1) := by decide +kernel
theorem dL_law_1420 : decode cL_law 1420 = .ok (.iaload, 1) := by decide +kernel
theorem dL_law_1421 : decode cL_law 1421 = .ok (.invokevirtual 189, 3) := by decide +kernel
theorem dL_law_1424 : decode cL_law 1424 = .ok (.if_icmp .eq 5, 3) := by decide +kernel
theorem dL_law_1427 : decode cL_law 1427 = .ok (.iconst 0, 1) := by decide +kernel
theorem dL_law_1428 : decode cL_law 1428 = .ok (.ireturn, 1) := by decide +kernel
theorem dL_law_1429 : decode cL_law 1429 = .ok (.iinc 3 6, 3) := by decide +kernel
theorem dL_law_1432 : decode cL_law 1432 = .ok (.goto (-1414), 3) := by decide +kernel
theorem dL_law_1435 : decode cL_law 1435 = .ok (.iconst 1, 1) := by decide +kernel
theorem dL_law_1436 : decode cL_law 1436 = .ok (.ireturn, 1) := by decide +kernel
end
section
/-! The world: 69 cells that stay where they are; all that changes is one table of ints, a row a cell. -/
abbrev zw_S : Type := Nat → Nat → Int32
def zw_us (σ : zw_S) (k : Nat) (r : Nat → Int32) : zw_S := fun i => if i = k then r else σ i
def zw_wr (σ : zw_S) (k j : Nat) (v : Int32) : zw_S := zw_us σ k (upd (σ k) j v)
/-- what is fixed: the classes' slots, the cells' addresses, the classes of int[] and Sheet[], the address of Kinds.ABOVE, those of the texts and of their bytes -/
abbrev zw_P : Type := va_G × (Nat → Nat) × ClassId × ClassId × Nat × (Nat → Nat) × (Nat → Nat)
abbrev zw_ad (P : zw_P) : Nat → Nat := P.2.1
abbrev zw_cI (P : zw_P) : ClassId := P.2.2.1
abbrev zw_cS (P : zw_P) : ClassId := P.2.2.2.1
abbrev zw_tK (P : zw_P) : Nat := P.2.2.2.2.1
abbrev zw_aK (P : zw_P) : Nat → Nat := P.2.2.2.2.2.1
abbrev zw_aV (P : zw_P) : Nat → Nat := P.2.2.2.2.2.2
def zw_bk (k : Nat) : Bool := k == 1 || k == 13 || k == 25
def zw_sh (k : Nat) : Bool := k == 48 || k == 50 || k == 52 || k == 54
def zw_ob (k : Nat) : Bool := zw_bk k || zw_sh k || k == 0 || k == 37 || k == 39 || k == 45 || k == 47 || k == 57
def zw_ar (k : Nat) : Bool := decide (k < 69) && !zw_ob k
def zw_lns : List Nat := [0, 0, 8, 8, 20, 20, 20, 20, 8, 8, 8, 8, 10, 0, 8, 8, 20, 20, 20, 20, 8, 8, 8, 8, 10, 0, 8, 8, 20, 20, 20, 20, 8, 8, 8, 8, 10, 0, 8, 0, 4, 4, 4, 32, 5, 0, 120, 4, 0, 40, 0, 40, 0, 40, 0, 40, 7, 0, 142, 142, 142, 142, 7, 8, 8, 120, 4, 4, 160]
def zw_ln (k : Nat) : Nat := zw_lns.getD k 0
abbrev zw_eB (P : zw_P) (k : Nat) (r : Nat → Int32) : List Value := [.int (r 0), .int (r 1), .int (r 2), .int (r 3), .ref (zw_ad P (k + 1)), .ref (zw_ad P (k + 2)), .ref (zw_ad P (k + 3)), .ref (zw_ad P (k + 4)), .ref (zw_ad P (k + 5)), .ref (zw_ad P (k + 6)), .ref (zw_ad P (k + 7)), .ref (zw_ad P (k + 8)), .ref (zw_ad P (k + 9)), .ref (zw_ad P (k + 10)), .ref (zw_ad P (k + 11))]
abbrev zw_eN (P : zw_P) (r : Nat → Int32) : List Value := [.ref (zw_ad P 1), .ref (zw_ad P 13), .ref (zw_ad P 25), .ref (zw_ad P 37), .ref (zw_ad P 39), .ref (zw_ad P 45), .ref (zw_ad P 47), .ref (zw_ad P 56), .int (r 8)]
abbrev zw_eW (P : zw_P) (_ : Nat → Int32) : List Value := [.ref (zw_ad P 38)]
abbrev zw_eG (P : zw_P) (r : Nat → Int32) : List Value := [.ref (zw_ad P 25), .ref (zw_ad P 37), .ref (zw_ad P 40), .ref (zw_ad P 41), .ref (zw_ad P 42), .ref (zw_ad P 43), .ref (zw_ad P 44), .int (r 7), .int (r 8), .int (r 9)]
abbrev zw_eT (P : zw_P) (r : Nat → Int32) : List Value := [.ref (zw_ad P 46), .int (r 1), .int (r 2), .int (r 3), .int (r 4), .int (r 5)]
abbrev zw_eS (P : zw_P) (k : Nat) (r : Nat → Int32) : List Value := [.ref (zw_ad P (k + 1)), .int (r 1), .int (r 2)]
abbrev zw_eM (P : zw_P) (r : Nat → Int32) : List Value := [.ref (zw_ad P 58), .ref (zw_ad P 59), .ref (zw_ad P 60), .ref (zw_ad P 61), .int (r 4), .ref (zw_ad P 62), .ref (zw_ad P 63), .ref (zw_ad P 64), .ref (zw_ad P 65), .int (r 9), .int (r 10), .int (r 11), .int (r 12), .int (r 13), .int (r 14), .ref (zw_ad P 66), .ref (zw_ad P 67), .ref (zw_ad P 68)]
def zw_ce (P : zw_P) (k : Nat) (r : Nat → Int32) : va_E :=
  if zw_bk k = true then .inr (0, zw_eB P k r) else if k = 0 then .inr (5, zw_eN P r) else if k = 37 then .inr (4, zw_eW P r) else if k = 39 then .inr (1, zw_eG P r) else if k = 45 then .inr (3, zw_eT P r)
  else if k = 47 then .inl (zw_cS P, (4, .inr (.inr (.inr (.inr (fun i => some (zw_ad P (48 + 2 * i)))))))) else if zw_sh k = true then .inr (2, zw_eS P k r) else if k = 57 then .inr (6, zw_eM P r) else .inl (zw_cI P, (zw_ln k, .inl r))
def zw_W (P : zw_P) (σ : zw_S) : va_W := (List.range 69).map (fun k => (zw_ad P k, zw_ce P k (σ k)))
theorem zw_at (P : zw_P) (σ : zw_S) {k : Nat} (h : k < 69) : (zw_W P σ)[k]? = some (zw_ad P k, zw_ce P k (σ k)) := by
  unfold zw_W
  rw [List.getElem?_map, List.getElem?_range h]
  rfl
theorem zw_set (P : zw_P) (σ : zw_S) {k : Nat} (h : k < 69) (r : Nat → Int32) : (zw_W P σ).set k (zw_ad P k, zw_ce P k r) = zw_W P (zw_us σ k r) := by
  apply List.ext_getElem?
  intro i
  by_cases hi : i = k
  · subst hi
    rw [List.getElem?_set_self (by simp [zw_W]; exact h), zw_at P _ h]
    simp [zw_us]
  · rw [List.getElem?_set_ne (Ne.symm hi)]
    by_cases h9 : i < 69
    · rw [zw_at P _ h9, zw_at P _ h9]
      simp [zw_us, hi]
    · rw [List.getElem?_eq_none (by simp [zw_W]; omega), List.getElem?_eq_none (by simp [zw_W]; omega)]
theorem zw_ce_ar (P : zw_P) {k : Nat} (h : zw_ar k = true) (r : Nat → Int32) : zw_ce P k r = .inl (zw_cI P, (zw_ln k, .inl r)) := by
  simp only [zw_ar, zw_ob, Bool.and_eq_true, Bool.not_eq_true', Bool.or_eq_false_iff, beq_eq_false_iff_ne, decide_eq_true_eq] at h
  simp [zw_ce, h]
theorem zw_ce_bk (P : zw_P) {k : Nat} (h : zw_bk k = true) (r : Nat → Int32) : zw_ce P k r = .inr (0, zw_eB P k r) := by
  simp [zw_ce, h]
theorem zw_ce_sh (P : zw_P) {k : Nat} (h : zw_sh k = true) (r : Nat → Int32) : zw_ce P k r = .inr (2, zw_eS P k r) := by
  have h1 : k = 48 ∨ k = 50 ∨ k = 52 ∨ k = 54 := by simpa [zw_sh, or_assoc] using h
  rcases h1 with rfl | rfl | rfl | rfl <;> rfl
theorem zw_lt_ar {k : Nat} (h : zw_ar k = true) : k < 69 := by
  simp only [zw_ar, Bool.and_eq_true, decide_eq_true_eq] at h
  exact h.1
theorem zw_bk_cases {k : Nat} (h : zw_bk k = true) : k = 1 ∨ k = 13 ∨ k = 25 := by simpa [zw_bk, or_assoc] using h
theorem zw_lt_bk {k : Nat} (h : zw_bk k = true) : k < 69 := by
  rcases zw_bk_cases h with rfl | rfl | rfl <;> decide
theorem zw_sh_cases {k : Nat} (h : zw_sh k = true) : k = 48 ∨ k = 50 ∨ k = 52 ∨ k = 54 := by simpa [zw_sh, or_assoc] using h
theorem zw_lt_sh {k : Nat} (h : zw_sh k = true) : k < 69 := by
  rcases zw_sh_cases h with rfl | rfl | rfl | rfl <;> decide
/-- a book's arrays -/
theorem zw_bk_ar {k : Nat} (h : zw_bk k = true) : ∀ j, j < 11 → zw_ar (k + 1 + j) = true ∧ zw_ln (k + 1 + j) = zw_lns.getD (2 + j) 0 := by
  rcases zw_bk_cases h with rfl | rfl | rfl <;> decide
theorem zw_sh_ar {k : Nat} (h : zw_sh k = true) : zw_ar (k + 1) = true ∧ zw_ln (k + 1) = 40 := by
  rcases zw_sh_cases h with rfl | rfl | rfl | rfl <;> decide
/-- the cells that may change -/
def zw_A (P : zw_P) : Nat → Prop := fun q => ∃ k : Nat, k < 69 ∧ q = zw_ad P k
/-- the texts: their bytes -/
def zw_tx : List String := ["name", "worth", "person", "hands", "age", "bears", "task", "wall", "debt", "feud", "letter", "promise", "tower", "hours", "needs"]
def zw_len : List Nat := [4, 5, 6, 5, 3, 5, 4, 4, 4, 4, 6, 7, 5, 5, 5]
def zw_byt : List (List Int32) := [[110, 97, 109, 101], [119, 111, 114, 116, 104], [112, 101, 114, 115, 111, 110], [104, 97, 110, 100, 115], [97, 103, 101], [98, 101, 97, 114, 115], [116, 97, 115, 107], [119, 97, 108, 108], [100, 101, 98, 116], [102, 101, 117, 100], [108, 101, 116, 116, 101, 114], [112, 114, 111, 109, 105, 115, 101], [116, 111, 119, 101, 114], [104, 111, 117, 114, 115], [110, 101, 101, 100, 115]]
def zw_ixT : List Nat := [67, 114, 75, 127, 129, 131, 95, 99, 101, 103, 105, 107, 109, 119, 121]
def zw_ixM : List Nat := [309, 289, 298, 300, 302, 304, 272, 274, 276, 278, 280, 282, 284, 295, 296]
def zw_abv (j : Nat) : Value := .int (([-1, 0, 0, 2, 0, 4, 1] : List Int32).getD j 0)
abbrev zw_tys (P : zw_P) : List (ClassId × FieldType) := [(zw_cI P, .int), (zw_cS P, .object "NameBook$Sheet")]
/-- what of the machine's state stays: the tables, the cells apart, Kinds.ABOVE, the texts -/
def zw_K (P : zw_P) (U : State) : Prop :=
  va_K P.1 vwCl (zw_tys P) U ∧ (∀ i j : Nat, i < 69 → j < 69 → zw_ad P i = zw_ad P j → i = j) ∧ va_Z "NameBook$Kinds" "ABOVE" "[I" (.ref (zw_tK P)) (zw_A P) U U.heap ∧ va_T .int (zw_tK P) 7 zw_abv (zw_A P) U U.heap
  ∧ vk_S 15 zw_len zw_byt (zw_aK P) (zw_aV P) (zw_A P) U U.heap ∧ va_Z "java/lang/String" "COMPACT_STRINGS" "Z" (.int 1) (zw_A P) U U.heap
  ∧ (∀ i : Nat, i < 15 → vk_R RX4 (zw_ixT.getD i 0) (zw_tx.getD i "") (zw_aK P i) U) ∧ (∀ i : Nat, i < 15 → vk_R RX7 (zw_ixM.getD i 0) (zw_tx.getD i "") (zw_aK P i) U)
def zw_Pre (P : zw_P) (σ : zw_S) (U : State) : Prop := va_P P.1 vwCl (zw_W P σ) U.heap ∧ zw_K P U
theorem zw_D {P : zw_P} {U : State} (h : zw_K P U) (σ : zw_S) : va_D (zw_A P) (zw_W P σ) := by
  have hl : ∀ (i : Nat) (q : Nat × va_E), (zw_W P σ)[i]? = some q → i < 69 ∧ q.1 = zw_ad P i := by
    intro i q hq
    by_cases h9 : i < 69
    · rw [zw_at P _ h9] at hq
      cases hq
      exact ⟨h9, rfl⟩
    · rw [List.getElem?_eq_none (by simp [zw_W]; omega)] at hq
      cases hq
  refine ⟨fun i j p q hi hj hpq => ?_, fun k q hq => ?_⟩
  · obtain ⟨a1, a2⟩ := hl i p hi
    obtain ⟨b1, b2⟩ := hl j q hj
    exact h.2.1 i j a1 b1 (by rw [← a2, ← b2, hpq])
  · obtain ⟨a1, a2⟩ := hl k q hq
    exact ⟨k, a1, a2⟩
/-- from a caller's start to a callee's -/
theorem zw_K.at {P : zw_P} {s U : State} {H : Heap} {locs : List Loc} (h : zw_K P s) (hS : va_S (zw_A P) s.heap H locs) (hU : U.heap = H) (hW : s.WarmedH U.vm) : zw_K P U := by
  obtain ⟨h1, h2, h3, h4, h5, h6, h7, h8⟩ := h
  have hk : ∀ a : Nat, a < s.heap.size → ¬ zw_A P a → U.heap[a]? = s.heap[a]? := fun a x y => by rw [hU]; exact hS.2.1 a x y
  exact ⟨va_K.moved hW.alike h1, h2, va_Z.moved hW.alike (h3.kept hk), va_T.moved hW.alike (h4.kept hk), vk_S.moved hW.alike (h5.kept hk), va_Z.moved hW.alike (h6.kept hk), fun i hi => (h7 i hi).warm hW, fun i hi => (h8 i hi).warm hW⟩
theorem zw_K.blind {P : zw_P} {U : State} {g : JFrame} {mk : MethodId} {a : Array Value} (h : zw_K P U) : zw_K P (U.calling g mk a) := by
  obtain ⟨h1, h2, h3, h4, h5, h6, h7, h8⟩ := h
  exact ⟨va_K.moved (u := U) (U := U.calling g mk a) (Vm.Alike.refl U.vm) h1, h2, va_Z.moved (u := U) (U := U.calling g mk a) (Vm.Alike.refl U.vm) h3, va_T.moved (u := U) (U := U.calling g mk a) (Vm.Alike.refl U.vm) h4, vk_S.moved (u := U) (U := U.calling g mk a) (Vm.Alike.refl U.vm) h5, va_Z.moved (u := U) (U := U.calling g mk a) (Vm.Alike.refl U.vm) h6, fun i hi => vk_R.same (u := U) (U := U.calling g mk a) rfl (h7 i hi), fun i hi => vk_R.same (u := U) (U := U.calling g mk a) rfl (h8 i hi)⟩
end
section
/-! One goal for all methods: zw_G: at pc, with these locals and this stack, the world as σ has it, the method comes to Q. -/
abbrev zw_B : Type := Program × Launch × Env × Room × State × MethodId × Array Value × List Frame × Method × Code
def zw_rm (h : Nat) : Room := { frames := h, cells := 0, slots := 0, locals := 48 * h }
def zw_G (B : zw_B) (P : zw_P) (Q : State → Prop) (nL : Nat) (σ : zw_S) (pc : Nat) (lv : List (Nat × Value)) (st : List Value) : Prop :=
  match B with
  | (p, l, e, R, s, m, args, below, meth, c) => ∀ (H : Heap) (locs : List Loc) (ls : Array Slot), va_P P.1 vwCl (zw_W P σ) H → va_S (zw_A P) s.heap H locs → lv_has ls nL lv → W p l e R s m args below meth c H locs 0 0 Q (F0 m pc ls st)
/-- what a method knows all along -/
def zf (B : zw_B) (P : zw_P) (cc : ByteArray) (own : String) (nL h : Nat) : Prop :=
  match B with
  | (p, l, e, R, s, m, args, below, meth, c) => p.tables.exec = Jvm.exec ∧ c.code = cc ∧ c.maxLocals = nL ∧ s.vm.findClass own = some m.cls ∧ (∀ w ∈ wsL_law, w.before args s = true) ∧ zw_K P s ∧ R = zw_rm h ∧ meth.locks = false
/-- what a method's end must show -/
def zq_i (B : zw_B) (P : zw_P) (r : Int32) (σ : zw_S) : State → Prop :=
  match B with
  | (p, l, e, R, s, m, args, below, meth, c) => MQ below (va_Qi (fun (x : Int32) (u : zw_S) => x = r ∧ u = σ) (fun u t => va_P P.1 vwCl (zw_W P u) t.heap) (zw_A P)) args s 0 0 (zw_A P)
def zq_v (B : zw_B) (P : zw_P) (σ : zw_S) : State → Prop :=
  match B with
  | (p, l, e, R, s, m, args, below, meth, c) => MQ below (va_Qv (fun (u : zw_S) => u = σ) (fun u t => va_P P.1 vwCl (zw_W P u) t.heap) (zw_A P)) args s 0 0 (zw_A P)
/-- a method's contract out of its model's answer -/
def zc_i (l : Launch) (P : zw_P) (y : MethodName) (cc : ByteArray) (nL : Nat) (rt : FieldType) (h : Nat) (args : List Value) (σ : zw_S) (o : Option (Int32 × zw_S)) : Prop :=
  ∀ (r : Int32) (τ : zw_S), o = some (r, τ) → Met l y (Cond.code y cc nL (some rt) :: wsL_law) (zw_rm h) (va_Pc args (zw_Pre P σ)) (va_Qi (fun (x : Int32) (u : zw_S) => x = r ∧ u = τ) (fun u t => va_P P.1 vwCl (zw_W P u) t.heap) (zw_A P)) 0 0 (zw_A P)
def zc_v (l : Launch) (P : zw_P) (y : MethodName) (cc : ByteArray) (nL : Nat) (h : Nat) (args : List Value) (σ : zw_S) (o : Option zw_S) : Prop :=
  ∀ (τ : zw_S), o = some τ → Met l y (Cond.code y cc nL none :: wsL_law) (zw_rm h) (va_Pc args (zw_Pre P σ)) (va_Qv (fun (u : zw_S) => u = τ) (fun u t => va_P P.1 vwCl (zw_W P u) t.heap) (zw_A P)) 0 0 (zw_A P)
/-- the words of a method of objects, of a static one -/
def zm_V (y : MethodName) (cc : ByteArray) (nL : Nat) (rt : Option FieldType) (n : Nat) : Prop := Cond.instanceMethod y ∈ wsL_law ∧ Cond.selects y.cls y y ∈ wsL_law ∧ Cond.initialized y.cls ∈ wsL_law ∧ Cond.code y cc nL rt ∈ wsL_law ∧ y.cls ≠ "java/lang/invoke/MethodHandle" ∧ y.cls ≠ "java/lang/invoke/VarHandle" ∧ (parseMethodDescriptor y.desc).map (fun d => d.parameters.length) = some n
def zm_S (y : MethodName) (cc : ByteArray) (nL : Nat) (rt : Option FieldType) (n : Nat) : Prop := Cond.static y ∈ wsL_law ∧ Cond.initialized y.cls ∈ wsL_law ∧ Cond.code y cc nL rt ∈ wsL_law ∧ y.cls ≠ "java/lang/invoke/MethodHandle" ∧ y.cls ≠ "java/lang/invoke/VarHandle" ∧ (parseMethodDescriptor y.desc).map (fun d => d.parameters.length) = some n
set_option maxRecDepth 20000 in
theorem zm_good : wsL_law.all goodWord = true := by decide +kernel
theorem zm_in {c : Cond} {y : MethodName} {cc : ByteArray} {nL : Nat} {rt : Option FieldType} (h : Cond.code y cc nL rt ∈ wsL_law) : GoodIn (wsL_law) (Cond.code y cc nL rt :: wsL_law) := by
  intro w hw
  have h1 : w ∈ wsL_law := by
    rcases List.mem_cons.mp hw with rfl | h2
    · exact h
    · exact h2
  exact ⟨h1, good_of_word (List.all_eq_true.mp zm_good w h1)⟩
/-- a cell is an object of a class -/
def zw_rc (P : zw_P) (k : Nat) (C : String) : Prop := k < 69 ∧ ∃ (ci : Nat) (T : u_T) (N : Nat), vwCl[ci]? = some (C, T, N) ∧ ∀ r : Nat → Int32, ∃ fs : List Value, zw_ce P k r = .inr (ci, fs)
theorem rc_bk (P : zw_P) {k : Nat} (h : zw_bk k = true) : zw_rc P k RX0 := ⟨zw_lt_bk h, 0, TX0, 15, rfl, fun r => ⟨_, zw_ce_bk P h r⟩⟩
theorem rc_sh (P : zw_P) {k : Nat} (h : zw_sh k = true) : zw_rc P k RX3 := ⟨zw_lt_sh h, 2, TX3, 3, rfl, fun r => ⟨_, zw_ce_sh P h r⟩⟩
theorem rc_0 (P : zw_P) : zw_rc P 0 RX6 := ⟨by decide, 5, TX6, 9, rfl, fun r => ⟨_, rfl⟩⟩
theorem rc_37 (P : zw_P) : zw_rc P 37 RX5 := ⟨by decide, 4, TX5, 1, rfl, fun r => ⟨_, rfl⟩⟩
theorem rc_39 (P : zw_P) : zw_rc P 39 RX1 := ⟨by decide, 1, TX1, 10, rfl, fun r => ⟨_, rfl⟩⟩
theorem rc_45 (P : zw_P) : zw_rc P 45 RX4 := ⟨by decide, 3, TX4, 6, rfl, fun r => ⟨_, rfl⟩⟩
theorem rc_57 (P : zw_P) : zw_rc P 57 RX7 := ⟨by decide, 6, TX7, 18, rfl, fun r => ⟨_, rfl⟩⟩
/-! the models' words -/
def zi (i : Int32) (n : Nat) : Bool := !(decide (i < 0)) && decide (i.toNatClampNeg < n)
theorem zi_in {i : Int32} {n : Nat} (h : zi i n = true) : vp_in i n := by
  simp only [zi, Bool.and_eq_true, Bool.not_eq_true', decide_eq_false_iff_not, decide_eq_true_eq] at h
  intro h2
  rcases h2 with h2 | h2
  · exact h.1 h2
  · omega
def rd {α : Type} (σ : zw_S) (k n : Nat) (i : Int32) (f : Int32 → Option α) : Option α := if zi i n = true then f (σ k i.toNatClampNeg) else none
def wt {α : Type} (σ : zw_S) (k n : Nat) (i v : Int32) (f : zw_S → Option α) : Option α := if zi i n = true then f (zw_wr σ k i.toNatClampNeg v) else none
def nm {α β : Type} (x : α) (f : α → Option β) : Option β := f x
def cl {α : Type} (o : Option (Int32 × zw_S)) (f : Int32 → zw_S → Option α) : Option α := match o with
  | none => none
  | some q => f q.1 q.2
def cv {α : Type} (o : Option zw_S) (f : zw_S → Option α) : Option α := match o with
  | none => none
  | some q => f q
/-- a test that must hold -/
def tt {α : Type} (b : Bool) (o : Option α) : Option α := if b = true then o else none
def zz (v : Int32) : Bool := decide (v = 0) || decide (v = 1)
theorem rd_some {α : Type} {σ : zw_S} {k n : Nat} {i : Int32} {f : Int32 → Option α} {x : α} (h : rd σ k n i f = some x) : vp_in i n ∧ ∃ v, v = σ k i.toNatClampNeg ∧ f v = some x := by
  unfold rd at h
  split at h
  · exact ⟨zi_in ‹_›, _, rfl, h⟩
  · cases h
theorem wt_some {α : Type} {σ : zw_S} {k n : Nat} {i v : Int32} {f : zw_S → Option α} {x : α} (h : wt σ k n i v f = some x) : vp_in i n ∧ ∃ τ, τ = zw_wr σ k i.toNatClampNeg v ∧ f τ = some x := by
  unfold wt at h
  split at h
  · exact ⟨zi_in ‹_›, _, rfl, h⟩
  · cases h
theorem nm_some {α β : Type} {e : α} {f : α → Option β} {x : β} (h : nm e f = some x) : ∃ v, v = e ∧ f v = some x := ⟨_, rfl, h⟩
theorem cl_some {α : Type} {q : Option (Int32 × zw_S)} {f : Int32 → zw_S → Option α} {x : α} (h : cl q f = some x) : ∃ r τ, q = some (r, τ) ∧ f r τ = some x := by
  cases q with
  | none => cases h
  | some q => exact ⟨q.1, q.2, rfl, h⟩
theorem cv_some {α : Type} {q : Option zw_S} {f : zw_S → Option α} {x : α} (h : cv q f = some x) : ∃ τ, q = some τ ∧ f τ = some x := by
  cases q with
  | none => cases h
  | some q => exact ⟨q, rfl, h⟩
theorem tt_some {α : Type} {b : Bool} {q : Option α} {x : α} (h : tt b q = some x) : b = true ∧ q = some x := by
  unfold tt at h
  split at h
  · exact ⟨‹_›, h⟩
  · cases h
theorem zz_some {v : Int32} (h : zz v = true) : v = 0 ∨ v = 1 := by simpa [zz] using h
theorem zz_nar {v : Int32} (h : v = 0 ∨ v = 1) : narrow .boolean (.int v) = .int v := by
  rcases h with rfl | rfl <;> decide
theorem zz_fit {v : Int32} (h : v = 0 ∨ v = 1) : fits .boolean (.int v) = true := by
  rcases h with rfl | rfl <;> decide
section ZR
variable {B : zw_B} {P : zw_P} {Q : State → Prop} {nL h pc : Nat} {σ : zw_S} {lv : List (Nat × Value)} {st : List Value} {cc : ByteArray} {own : String}
theorem zr_top {x e : Int32} (ex : x = e) (k : zw_G B P Q nL σ pc lv (.int x :: st)) : zw_G B P Q nL σ pc lv (.int e :: st) := by
  subst ex
  exact k
theorem zr_st {τ : zw_S} (ex : τ = σ) (k : zw_G B P Q nL τ pc lv st) : zw_G B P Q nL σ pc lv st := by
  subst ex
  exact k
theorem zr_sub {lv' : List (Nat × Value)} (ks : List Nat) (hk : lv_pick lv ks = lv') (k : zw_G B P Q nL σ pc lv' st) : zw_G B P Q nL σ pc lv st := by
  obtain ⟨p, l, e, R, s, m, args, below, meth, c⟩ := B
  intro H locs ls hP hS hl
  exact k H locs ls hP hS (lv_sub hl ks hk)
theorem zr_iconst {n : Int} {v : Int32} (E : zf B P cc own nL h) (hd : decode cc pc = .ok (.iconst n, 1)) (hv : Int32.ofInt n = v) (kk : zw_G B P Q nL σ (pc + 1) lv (.int v :: st)) : zw_G B P Q nL σ pc lv (st) := by
  obtain ⟨p, l, e, R, s, m, args, below, meth, c⟩ := B
  intro H locs ls hP hS hl
  exact lv_iconst E.1 E.2.1 hd hv (kk H locs ls hP hS hl)
theorem zr_bipush {n : Int} {v : Int32} (E : zf B P cc own nL h) (hd : decode cc pc = .ok (.bipush n, 2)) (hv : (Int8.ofInt n).toInt32 = v) (kk : zw_G B P Q nL σ (pc + 2) lv (.int v :: st)) : zw_G B P Q nL σ pc lv (st) := by
  obtain ⟨p, l, e, R, s, m, args, below, meth, c⟩ := B
  intro H locs ls hP hS hl
  exact lv_bipush E.1 E.2.1 hd hv (kk H locs ls hP hS hl)
theorem zr_sipush {n : Int} {v : Int32} (E : zf B P cc own nL h) (hd : decode cc pc = .ok (.sipush n, 3)) (hv : (Int16.ofInt n).toInt32 = v) (kk : zw_G B P Q nL σ (pc + 3) lv (.int v :: st)) : zw_G B P Q nL σ pc lv (st) := by
  obtain ⟨p, l, e, R, s, m, args, below, meth, c⟩ := B
  intro H locs ls hP hS hl
  exact lv_sipush E.1 E.2.1 hd hv (kk H locs ls hP hS hl)
theorem zr_ldc {i : Nat} {v : Int32} (E : zf B P cc own nL h) (hc : Cond.constant own i v ∈ wsL_law) (hd : decode cc pc = .ok (.ldc i, 2)) (kk : zw_G B P Q nL σ (pc + 2) lv (.int v :: st)) : zw_G B P Q nL σ pc lv (st) := by
  obtain ⟨p, l, e, R, s, m, args, below, meth, c⟩ := B
  intro H locs ls hP hS hl
  exact lv_ldc E.1 E.2.1 E.2.2.2.1 (E.2.2.2.2.1 _ hc) hd (kk H locs ls hP hS hl)
theorem zr_ldcw {i : Nat} {v : Int32} (E : zf B P cc own nL h) (hc : Cond.constant own i v ∈ wsL_law) (hd : decode cc pc = .ok (.ldc_w i, 3)) (kk : zw_G B P Q nL σ (pc + 3) lv (.int v :: st)) : zw_G B P Q nL σ pc lv (st) := by
  obtain ⟨p, l, e, R, s, m, args, below, meth, c⟩ := B
  intro H locs ls hP hS hl
  exact lv_ldcw E.1 E.2.1 E.2.2.2.1 (E.2.2.2.2.1 _ hc) hd (kk H locs ls hP hS hl)
theorem zr_ldc2 {i : Nat} {v : Int64} (E : zf B P cc own nL h) (hc : Cond.constantLong own i v ∈ wsL_law) (hd : decode cc pc = .ok (.ldc2_w i, 3)) (kk : zw_G B P Q nL σ (pc + 3) lv (.long v :: st)) : zw_G B P Q nL σ pc lv (st) := by
  obtain ⟨p, l, e, R, s, m, args, below, meth, c⟩ := B
  intro H locs ls hP hS hl
  exact lv_ldc2 E.1 E.2.1 E.2.2.2.1 (E.2.2.2.2.1 _ hc) hd (kk H locs ls hP hS hl)
theorem zr_lconst {n : Fin 2} {v : Int64} (E : zf B P cc own nL h) (hd : decode cc pc = .ok (.lconst n, 1)) (hv : Int64.ofNat (n : Nat) = v) (kk : zw_G B P Q nL σ (pc + 1) lv (.long v :: st)) : zw_G B P Q nL σ pc lv (st) := by
  obtain ⟨p, l, e, R, s, m, args, below, meth, c⟩ := B
  intro H locs ls hP hS hl
  exact lv_lconst E.1 E.2.1 hd hv (kk H locs ls hP hS hl)
theorem zr_ldcT {i : Nat} (E : zf B P cc own nL h) (ho : own = RX4) (w : Nat) (hw : w < 15) (hi : zw_ixT.getD w 0 = i) (hd : decode cc pc = .ok (.ldc i, 2)) (kk : zw_G B P Q nL σ (pc + 2) lv (.ref (zw_aK P w) :: st)) : zw_G B P Q nL σ pc lv (st) := by
  obtain ⟨p, l, e, R, s, m, args, below, meth, c⟩ := B
  intro H locs ls hP hS hl
  subst hi
  subst ho
  exact va_ldcS E.1 E.2.1 E.2.2.2.1 (E.2.2.2.2.2.1.2.2.2.2.2.2.1 w hw) hd (kk H locs ls hP hS hl)
theorem zr_ldcM {i : Nat} (E : zf B P cc own nL h) (ho : own = RX7) (w : Nat) (hw : w < 15) (hi : zw_ixM.getD w 0 = i) (hd : decode cc pc = .ok (.ldc i, 2)) (kk : zw_G B P Q nL σ (pc + 2) lv (.ref (zw_aK P w) :: st)) : zw_G B P Q nL σ pc lv (st) := by
  obtain ⟨p, l, e, R, s, m, args, below, meth, c⟩ := B
  intro H locs ls hP hS hl
  subst hi
  subst ho
  exact va_ldcS E.1 E.2.1 E.2.2.2.1 (E.2.2.2.2.2.1.2.2.2.2.2.2.2 w hw) hd (kk H locs ls hP hS hl)
theorem zr_iload_n {k : Fin 4} {x : Int32} (E : zf B P cc own nL h) (hd : decode cc pc = .ok (.iload_n k, 1)) (j : Nat) (hj : lv[j]? = some ((k : Nat), .int x)) (kk : zw_G B P Q nL σ (pc + 1) lv (.int x :: st)) : zw_G B P Q nL σ pc lv (st) := by
  obtain ⟨p, l, e, R, s, m, args, below, meth, c⟩ := B
  intro H locs ls hP hS hl
  exact lv_iload_n E.1 E.2.1 hd rfl (lv_at hl j hj) (kk H locs ls hP hS hl)
theorem zr_iload {i : Nat} {x : Int32} (E : zf B P cc own nL h) (hd : decode cc pc = .ok (.iload i, 2)) (j : Nat) (hj : lv[j]? = some (i, .int x)) (kk : zw_G B P Q nL σ (pc + 2) lv (.int x :: st)) : zw_G B P Q nL σ pc lv (st) := by
  obtain ⟨p, l, e, R, s, m, args, below, meth, c⟩ := B
  intro H locs ls hP hS hl
  exact lv_iload E.1 E.2.1 hd (lv_at hl j hj) (kk H locs ls hP hS hl)
theorem zr_lload_n {k : Fin 4} {x : Int64} (E : zf B P cc own nL h) (hd : decode cc pc = .ok (.lload_n k, 1)) (j : Nat) (hj : lv[j]? = some ((k : Nat), .long x)) (kk : zw_G B P Q nL σ (pc + 1) lv (.long x :: st)) : zw_G B P Q nL σ pc lv (st) := by
  obtain ⟨p, l, e, R, s, m, args, below, meth, c⟩ := B
  intro H locs ls hP hS hl
  exact lv_lload_n E.1 E.2.1 hd rfl (lv_at hl j hj) (kk H locs ls hP hS hl)
theorem zr_lload {i : Nat} {x : Int64} (E : zf B P cc own nL h) (hd : decode cc pc = .ok (.lload i, 2)) (j : Nat) (hj : lv[j]? = some (i, .long x)) (kk : zw_G B P Q nL σ (pc + 2) lv (.long x :: st)) : zw_G B P Q nL σ pc lv (st) := by
  obtain ⟨p, l, e, R, s, m, args, below, meth, c⟩ := B
  intro H locs ls hP hS hl
  exact lv_lload E.1 E.2.1 hd (lv_at hl j hj) (kk H locs ls hP hS hl)
theorem zr_aload_n {k : Fin 4} {x : Nat} (E : zf B P cc own nL h) (hd : decode cc pc = .ok (.aload_n k, 1)) (j : Nat) (hj : lv[j]? = some ((k : Nat), .ref x)) (kk : zw_G B P Q nL σ (pc + 1) lv (.ref x :: st)) : zw_G B P Q nL σ pc lv (st) := by
  obtain ⟨p, l, e, R, s, m, args, below, meth, c⟩ := B
  intro H locs ls hP hS hl
  exact lv_aload_n E.1 E.2.1 hd rfl (lv_at hl j hj) (kk H locs ls hP hS hl)
theorem zr_aload {i : Nat} {x : Nat} (E : zf B P cc own nL h) (hd : decode cc pc = .ok (.aload i, 2)) (j : Nat) (hj : lv[j]? = some (i, .ref x)) (kk : zw_G B P Q nL σ (pc + 2) lv (.ref x :: st)) : zw_G B P Q nL σ pc lv (st) := by
  obtain ⟨p, l, e, R, s, m, args, below, meth, c⟩ := B
  intro H locs ls hP hS hl
  exact lv_aload E.1 E.2.1 hd (lv_at hl j hj) (kk H locs ls hP hS hl)
theorem zr_istore_n {k : Fin 4} {x : Int32} {lv' : List (Nat × Value)} (E : zf B P cc own nL h) (hd : decode cc pc = .ok (.istore_n k, 1)) (hn : (k : Nat) < nL) (hl' : ((k : Nat), Value.int x) :: lv.filter (fun q => !(q.1 == (k : Nat)) && !(q.1 + 1 == (k : Nat) && q.2.category == 2)) = lv') (kk : zw_G B P Q nL σ (pc + 1) lv' (st)) : zw_G B P Q nL σ pc lv (.int x :: st) := by
  obtain ⟨p, l, e, R, s, m, args, below, meth, c⟩ := B
  intro H locs ls hP hS hl
  exact lv_istore_n E.1 E.2.1 hd rfl hl hn hl' (fun ls2 hl2 => kk H locs ls2 hP hS hl2)
theorem zr_istore {i : Nat} {x : Int32} {lv' : List (Nat × Value)} (E : zf B P cc own nL h) (hd : decode cc pc = .ok (.istore i, 2)) (hn : i < nL) (hl' : (i, Value.int x) :: lv.filter (fun q => !(q.1 == i) && !(q.1 + 1 == i && q.2.category == 2)) = lv') (kk : zw_G B P Q nL σ (pc + 2) lv' (st)) : zw_G B P Q nL σ pc lv (.int x :: st) := by
  obtain ⟨p, l, e, R, s, m, args, below, meth, c⟩ := B
  intro H locs ls hP hS hl
  exact lv_istore E.1 E.2.1 hd hl hn hl' (fun ls2 hl2 => kk H locs ls2 hP hS hl2)
theorem zr_astore_n {k : Fin 4} {x : Nat} {lv' : List (Nat × Value)} (E : zf B P cc own nL h) (hd : decode cc pc = .ok (.astore_n k, 1)) (hn : (k : Nat) < nL) (hl' : ((k : Nat), Value.ref x) :: lv.filter (fun q => !(q.1 == (k : Nat)) && !(q.1 + 1 == (k : Nat) && q.2.category == 2)) = lv') (kk : zw_G B P Q nL σ (pc + 1) lv' (st)) : zw_G B P Q nL σ pc lv (.ref x :: st) := by
  obtain ⟨p, l, e, R, s, m, args, below, meth, c⟩ := B
  intro H locs ls hP hS hl
  exact lv_astore_n E.1 E.2.1 hd rfl hl hn hl' (fun ls2 hl2 => kk H locs ls2 hP hS hl2)
theorem zr_astore {i : Nat} {x : Nat} {lv' : List (Nat × Value)} (E : zf B P cc own nL h) (hd : decode cc pc = .ok (.astore i, 2)) (hn : i < nL) (hl' : (i, Value.ref x) :: lv.filter (fun q => !(q.1 == i) && !(q.1 + 1 == i && q.2.category == 2)) = lv') (kk : zw_G B P Q nL σ (pc + 2) lv' (st)) : zw_G B P Q nL σ pc lv (.ref x :: st) := by
  obtain ⟨p, l, e, R, s, m, args, below, meth, c⟩ := B
  intro H locs ls hP hS hl
  exact lv_astore E.1 E.2.1 hd hl hn hl' (fun ls2 hl2 => kk H locs ls2 hP hS hl2)
theorem zr_iinc {i j : Nat} {n : Int} {x v : Int32} {lv' : List (Nat × Value)} (E : zf B P cc own nL h) (hd : decode cc pc = .ok (.iinc i n, 3)) (hj : lv[j]? = some (i, .int x)) (hv : v = x + Int32.ofInt n) (hn : i < nL) (hl' : (i, Value.int v) :: lv.filter (fun q => !(q.1 == i) && !(q.1 + 1 == i && q.2.category == 2)) = lv') (kk : zw_G B P Q nL σ (pc + 3) lv' (st)) : zw_G B P Q nL σ pc lv (st) := by
  obtain ⟨p, l, e, R, s, m, args, below, meth, c⟩ := B
  intro H locs ls hP hS hl
  exact lv_iinc E.1 E.2.1 hd hl hj hv.symm hn hl' (fun ls2 hl2 => kk H locs ls2 hP hS hl2)
theorem zr_iadd {x y : Int32} (E : zf B P cc own nL h) (hd : decode cc pc = .ok (.iadd, 1)) (kk : zw_G B P Q nL σ (pc + 1) lv (.int (x + y) :: st)) : zw_G B P Q nL σ pc lv (.int y :: .int x :: st) := by
  obtain ⟨p, l, e, R, s, m, args, below, meth, c⟩ := B
  intro H locs ls hP hS hl
  exact lv_iadd E.1 E.2.1 hd (kk H locs ls hP hS hl)
theorem zr_isub {x y : Int32} (E : zf B P cc own nL h) (hd : decode cc pc = .ok (.isub, 1)) (kk : zw_G B P Q nL σ (pc + 1) lv (.int (x - y) :: st)) : zw_G B P Q nL σ pc lv (.int y :: .int x :: st) := by
  obtain ⟨p, l, e, R, s, m, args, below, meth, c⟩ := B
  intro H locs ls hP hS hl
  exact lv_isub E.1 E.2.1 hd (kk H locs ls hP hS hl)
theorem zr_imul {x y : Int32} (E : zf B P cc own nL h) (hd : decode cc pc = .ok (.imul, 1)) (kk : zw_G B P Q nL σ (pc + 1) lv (.int (x * y) :: st)) : zw_G B P Q nL σ pc lv (.int y :: .int x :: st) := by
  obtain ⟨p, l, e, R, s, m, args, below, meth, c⟩ := B
  intro H locs ls hP hS hl
  exact lv_imul E.1 E.2.1 hd (kk H locs ls hP hS hl)
theorem zr_iand {x y : Int32} (E : zf B P cc own nL h) (hd : decode cc pc = .ok (.iand, 1)) (kk : zw_G B P Q nL σ (pc + 1) lv (.int (x &&& y) :: st)) : zw_G B P Q nL σ pc lv (.int y :: .int x :: st) := by
  obtain ⟨p, l, e, R, s, m, args, below, meth, c⟩ := B
  intro H locs ls hP hS hl
  exact lv_iand E.1 E.2.1 hd (kk H locs ls hP hS hl)
theorem zr_ior {x y : Int32} (E : zf B P cc own nL h) (hd : decode cc pc = .ok (.ior, 1)) (kk : zw_G B P Q nL σ (pc + 1) lv (.int (x ||| y) :: st)) : zw_G B P Q nL σ pc lv (.int y :: .int x :: st) := by
  obtain ⟨p, l, e, R, s, m, args, below, meth, c⟩ := B
  intro H locs ls hP hS hl
  exact lv_ior E.1 E.2.1 hd (kk H locs ls hP hS hl)
theorem zr_ixor {x y : Int32} (E : zf B P cc own nL h) (hd : decode cc pc = .ok (.ixor, 1)) (kk : zw_G B P Q nL σ (pc + 1) lv (.int (x ^^^ y) :: st)) : zw_G B P Q nL σ pc lv (.int y :: .int x :: st) := by
  obtain ⟨p, l, e, R, s, m, args, below, meth, c⟩ := B
  intro H locs ls hP hS hl
  exact lv_ixor E.1 E.2.1 hd (kk H locs ls hP hS hl)
theorem zr_ishl {x y : Int32} (E : zf B P cc own nL h) (hd : decode cc pc = .ok (.ishl, 1)) (kk : zw_G B P Q nL σ (pc + 1) lv (.int (x <<< (y &&& 31)) :: st)) : zw_G B P Q nL σ pc lv (.int y :: .int x :: st) := by
  obtain ⟨p, l, e, R, s, m, args, below, meth, c⟩ := B
  intro H locs ls hP hS hl
  exact lv_ishl E.1 E.2.1 hd (kk H locs ls hP hS hl)
theorem zr_ishr {x y : Int32} (E : zf B P cc own nL h) (hd : decode cc pc = .ok (.ishr, 1)) (kk : zw_G B P Q nL σ (pc + 1) lv (.int (x >>> (y &&& 31)) :: st)) : zw_G B P Q nL σ pc lv (.int y :: .int x :: st) := by
  obtain ⟨p, l, e, R, s, m, args, below, meth, c⟩ := B
  intro H locs ls hP hS hl
  exact lv_ishr E.1 E.2.1 hd (kk H locs ls hP hS hl)
theorem zr_idiv {x y : Int32} (E : zf B P cc own nL h) (hd : decode cc pc = .ok (.idiv, 1)) (hne : ¬ y = 0) (kk : zw_G B P Q nL σ (pc + 1) lv (.int (x / y) :: st)) : zw_G B P Q nL σ pc lv (.int y :: .int x :: st) := by
  obtain ⟨p, l, e, R, s, m, args, below, meth, c⟩ := B
  intro H locs ls hP hS hl
  exact lv_idiv E.1 E.2.1 hd hne (kk H locs ls hP hS hl)
theorem zr_irem {x y : Int32} (E : zf B P cc own nL h) (hd : decode cc pc = .ok (.irem, 1)) (hne : ¬ y = 0) (kk : zw_G B P Q nL σ (pc + 1) lv (.int (x - x / y * y) :: st)) : zw_G B P Q nL σ pc lv (.int y :: .int x :: st) := by
  obtain ⟨p, l, e, R, s, m, args, below, meth, c⟩ := B
  intro H locs ls hP hS hl
  exact lv_irem E.1 E.2.1 hd hne (kk H locs ls hP hS hl)
def zush (x y : Int32) : Int32 := (x.toUInt32 >>> (y.toUInt32 &&& Int32.toUInt32 31)).toInt32
theorem zr_iushr {x y : Int32} (E : zf B P cc own nL h) (hd : decode cc pc = .ok (.iushr, 1)) (kk : zw_G B P Q nL σ (pc + 1) lv (.int (zush x y) :: st)) : zw_G B P Q nL σ pc lv (.int y :: .int x :: st) := by
  obtain ⟨p, l, e, R, s, m, args, below, meth, c⟩ := B
  intro H locs ls hP hS hl
  exact lv_iushr E.1 E.2.1 hd rfl (kk H locs ls hP hS hl)
theorem zr_i2b {x : Int32} (E : zf B P cc own nL h) (hd : decode cc pc = .ok (.i2b, 1)) (kk : zw_G B P Q nL σ (pc + 1) lv (.int (x.toInt8.toInt32) :: st)) : zw_G B P Q nL σ pc lv (.int x :: st) := by
  obtain ⟨p, l, e, R, s, m, args, below, meth, c⟩ := B
  intro H locs ls hP hS hl
  exact lv_i2b E.1 E.2.1 hd rfl (kk H locs ls hP hS hl)
theorem zr_i2s {x : Int32} (E : zf B P cc own nL h) (hd : decode cc pc = .ok (.i2s, 1)) (kk : zw_G B P Q nL σ (pc + 1) lv (.int (x.toInt16.toInt32) :: st)) : zw_G B P Q nL σ pc lv (.int x :: st) := by
  obtain ⟨p, l, e, R, s, m, args, below, meth, c⟩ := B
  intro H locs ls hP hS hl
  exact lv_i2s E.1 E.2.1 hd rfl (kk H locs ls hP hS hl)
theorem zr_i2l {x : Int32} (E : zf B P cc own nL h) (hd : decode cc pc = .ok (.i2l, 1)) (kk : zw_G B P Q nL σ (pc + 1) lv (.long (x.toInt64) :: st)) : zw_G B P Q nL σ pc lv (.int x :: st) := by
  obtain ⟨p, l, e, R, s, m, args, below, meth, c⟩ := B
  intro H locs ls hP hS hl
  exact lv_i2l E.1 E.2.1 hd rfl (kk H locs ls hP hS hl)
theorem zr_lcmp {x y : Int64} (E : zf B P cc own nL h) (hd : decode cc pc = .ok (.lcmp, 1)) (kk : zw_G B P Q nL σ (pc + 1) lv (.int (lg_cmp x y) :: st)) : zw_G B P Q nL σ pc lv (.long y :: .long x :: st) := by
  obtain ⟨p, l, e, R, s, m, args, below, meth, c⟩ := B
  intro H locs ls hP hS hl
  exact W.lcmp E.1 E.2.1 hd (kk H locs ls hP hS hl)
theorem zr_dup {a : Value} (E : zf B P cc own nL h) (hd : decode cc pc = .ok (.dup, 1)) (ha : a.category = 1) (kk : zw_G B P Q nL σ (pc + 1) lv (a :: a :: st)) : zw_G B P Q nL σ pc lv (a :: st) := by
  obtain ⟨p, l, e, R, s, m, args, below, meth, c⟩ := B
  intro H locs ls hP hS hl
  exact lv_dup E.1 E.2.1 hd ha (kk H locs ls hP hS hl)
theorem zr_pop {a : Value} (E : zf B P cc own nL h) (hd : decode cc pc = .ok (.pop, 1)) (ha : a.category = 1) (kk : zw_G B P Q nL σ (pc + 1) lv (st)) : zw_G B P Q nL σ pc lv (a :: st) := by
  obtain ⟨p, l, e, R, s, m, args, below, meth, c⟩ := B
  intro H locs ls hP hS hl
  exact lv_pop E.1 E.2.1 hd ha (kk H locs ls hP hS hl)
theorem zr_dup_x1 {a b : Value} (E : zf B P cc own nL h) (hd : decode cc pc = .ok (.dup_x1, 1)) (ha : a.category = 1) (hb : b.category = 1) (kk : zw_G B P Q nL σ (pc + 1) lv (a :: b :: a :: st)) : zw_G B P Q nL σ pc lv (a :: b :: st) := by
  obtain ⟨p, l, e, R, s, m, args, below, meth, c⟩ := B
  intro H locs ls hP hS hl
  exact lv_dup_x1 E.1 E.2.1 hd ha hb (kk H locs ls hP hS hl)
theorem zr_dup2 {a b : Value} (E : zf B P cc own nL h) (hd : decode cc pc = .ok (.dup2, 1)) (ha : a.category = 1) (hb : b.category = 1) (kk : zw_G B P Q nL σ (pc + 1) lv (a :: b :: a :: b :: st)) : zw_G B P Q nL σ pc lv (a :: b :: st) := by
  obtain ⟨p, l, e, R, s, m, args, below, meth, c⟩ := B
  intro H locs ls hP hS hl
  exact lv_dup2_11 E.1 E.2.1 hd ha hb (kk H locs ls hP hS hl)
theorem zr_if_eq {x : Int32} {off : Int} {tgt : Nat} (E : zf B P cc own nL h) (hd : decode cc pc = .ok (.ifCond .eq off, 3)) (ht : (pc : Int) + off = (tgt : Int)) (kt : x = 0 → zw_G B P Q nL σ tgt lv st) (kf : ¬ x = 0 → zw_G B P Q nL σ (pc + 3) lv st) : zw_G B P Q nL σ pc lv (.int x :: st) := by
  obtain ⟨p, l, e, R, s, m, args, below, meth, c⟩ := B
  intro H locs ls hP hS hl
  exact lv_if_eq E.1 E.2.1 hd ht (fun q => kt q H locs ls hP hS hl) (fun q => kf q H locs ls hP hS hl)
theorem zr_if_ne {x : Int32} {off : Int} {tgt : Nat} (E : zf B P cc own nL h) (hd : decode cc pc = .ok (.ifCond .ne off, 3)) (ht : (pc : Int) + off = (tgt : Int)) (kt : ¬ x = 0 → zw_G B P Q nL σ tgt lv st) (kf : x = 0 → zw_G B P Q nL σ (pc + 3) lv st) : zw_G B P Q nL σ pc lv (.int x :: st) := by
  obtain ⟨p, l, e, R, s, m, args, below, meth, c⟩ := B
  intro H locs ls hP hS hl
  exact lv_if_ne E.1 E.2.1 hd ht (fun q => kt q H locs ls hP hS hl) (fun q => kf q H locs ls hP hS hl)
theorem zr_if_lt {x : Int32} {off : Int} {tgt : Nat} (E : zf B P cc own nL h) (hd : decode cc pc = .ok (.ifCond .lt off, 3)) (ht : (pc : Int) + off = (tgt : Int)) (kt : x < 0 → zw_G B P Q nL σ tgt lv st) (kf : ¬ x < 0 → zw_G B P Q nL σ (pc + 3) lv st) : zw_G B P Q nL σ pc lv (.int x :: st) := by
  obtain ⟨p, l, e, R, s, m, args, below, meth, c⟩ := B
  intro H locs ls hP hS hl
  exact lv_if_lt E.1 E.2.1 hd ht (fun q => kt q H locs ls hP hS hl) (fun q => kf q H locs ls hP hS hl)
theorem zr_if_ge {x : Int32} {off : Int} {tgt : Nat} (E : zf B P cc own nL h) (hd : decode cc pc = .ok (.ifCond .ge off, 3)) (ht : (pc : Int) + off = (tgt : Int)) (kt : 0 ≤ x → zw_G B P Q nL σ tgt lv st) (kf : ¬ 0 ≤ x → zw_G B P Q nL σ (pc + 3) lv st) : zw_G B P Q nL σ pc lv (.int x :: st) := by
  obtain ⟨p, l, e, R, s, m, args, below, meth, c⟩ := B
  intro H locs ls hP hS hl
  exact lv_if_ge E.1 E.2.1 hd ht (fun q => kt q H locs ls hP hS hl) (fun q => kf q H locs ls hP hS hl)
theorem zr_if_gt {x : Int32} {off : Int} {tgt : Nat} (E : zf B P cc own nL h) (hd : decode cc pc = .ok (.ifCond .gt off, 3)) (ht : (pc : Int) + off = (tgt : Int)) (kt : 0 < x → zw_G B P Q nL σ tgt lv st) (kf : ¬ 0 < x → zw_G B P Q nL σ (pc + 3) lv st) : zw_G B P Q nL σ pc lv (.int x :: st) := by
  obtain ⟨p, l, e, R, s, m, args, below, meth, c⟩ := B
  intro H locs ls hP hS hl
  exact lv_if_gt E.1 E.2.1 hd ht (fun q => kt q H locs ls hP hS hl) (fun q => kf q H locs ls hP hS hl)
theorem zr_if_le {x : Int32} {off : Int} {tgt : Nat} (E : zf B P cc own nL h) (hd : decode cc pc = .ok (.ifCond .le off, 3)) (ht : (pc : Int) + off = (tgt : Int)) (kt : x ≤ 0 → zw_G B P Q nL σ tgt lv st) (kf : ¬ x ≤ 0 → zw_G B P Q nL σ (pc + 3) lv st) : zw_G B P Q nL σ pc lv (.int x :: st) := by
  obtain ⟨p, l, e, R, s, m, args, below, meth, c⟩ := B
  intro H locs ls hP hS hl
  exact lv_if_le E.1 E.2.1 hd ht (fun q => kt q H locs ls hP hS hl) (fun q => kf q H locs ls hP hS hl)
theorem zr_icmp_eq {x y : Int32} {off : Int} {tgt : Nat} (E : zf B P cc own nL h) (hd : decode cc pc = .ok (.if_icmp .eq off, 3)) (ht : (pc : Int) + off = (tgt : Int)) (kt : x = y → zw_G B P Q nL σ tgt lv st) (kf : ¬ x = y → zw_G B P Q nL σ (pc + 3) lv st) : zw_G B P Q nL σ pc lv (.int y :: .int x :: st) := by
  obtain ⟨p, l, e, R, s, m, args, below, meth, c⟩ := B
  intro H locs ls hP hS hl
  exact lv_icmp_eq E.1 E.2.1 hd ht (fun q => kt q H locs ls hP hS hl) (fun q => kf q H locs ls hP hS hl)
theorem zr_icmp_ne {x y : Int32} {off : Int} {tgt : Nat} (E : zf B P cc own nL h) (hd : decode cc pc = .ok (.if_icmp .ne off, 3)) (ht : (pc : Int) + off = (tgt : Int)) (kt : ¬ x = y → zw_G B P Q nL σ tgt lv st) (kf : x = y → zw_G B P Q nL σ (pc + 3) lv st) : zw_G B P Q nL σ pc lv (.int y :: .int x :: st) := by
  obtain ⟨p, l, e, R, s, m, args, below, meth, c⟩ := B
  intro H locs ls hP hS hl
  exact lv_icmp_ne E.1 E.2.1 hd ht (fun q => kt q H locs ls hP hS hl) (fun q => kf q H locs ls hP hS hl)
theorem zr_icmp_lt {x y : Int32} {off : Int} {tgt : Nat} (E : zf B P cc own nL h) (hd : decode cc pc = .ok (.if_icmp .lt off, 3)) (ht : (pc : Int) + off = (tgt : Int)) (kt : x < y → zw_G B P Q nL σ tgt lv st) (kf : ¬ x < y → zw_G B P Q nL σ (pc + 3) lv st) : zw_G B P Q nL σ pc lv (.int y :: .int x :: st) := by
  obtain ⟨p, l, e, R, s, m, args, below, meth, c⟩ := B
  intro H locs ls hP hS hl
  exact lv_icmp_lt E.1 E.2.1 hd ht (fun q => kt q H locs ls hP hS hl) (fun q => kf q H locs ls hP hS hl)
theorem zr_icmp_ge {x y : Int32} {off : Int} {tgt : Nat} (E : zf B P cc own nL h) (hd : decode cc pc = .ok (.if_icmp .ge off, 3)) (ht : (pc : Int) + off = (tgt : Int)) (kt : y ≤ x → zw_G B P Q nL σ tgt lv st) (kf : ¬ y ≤ x → zw_G B P Q nL σ (pc + 3) lv st) : zw_G B P Q nL σ pc lv (.int y :: .int x :: st) := by
  obtain ⟨p, l, e, R, s, m, args, below, meth, c⟩ := B
  intro H locs ls hP hS hl
  exact lv_icmp_ge E.1 E.2.1 hd ht (fun q => kt q H locs ls hP hS hl) (fun q => kf q H locs ls hP hS hl)
theorem zr_icmp_gt {x y : Int32} {off : Int} {tgt : Nat} (E : zf B P cc own nL h) (hd : decode cc pc = .ok (.if_icmp .gt off, 3)) (ht : (pc : Int) + off = (tgt : Int)) (kt : y < x → zw_G B P Q nL σ tgt lv st) (kf : ¬ y < x → zw_G B P Q nL σ (pc + 3) lv st) : zw_G B P Q nL σ pc lv (.int y :: .int x :: st) := by
  obtain ⟨p, l, e, R, s, m, args, below, meth, c⟩ := B
  intro H locs ls hP hS hl
  exact lv_icmp_gt E.1 E.2.1 hd ht (fun q => kt q H locs ls hP hS hl) (fun q => kf q H locs ls hP hS hl)
theorem zr_icmp_le {x y : Int32} {off : Int} {tgt : Nat} (E : zf B P cc own nL h) (hd : decode cc pc = .ok (.if_icmp .le off, 3)) (ht : (pc : Int) + off = (tgt : Int)) (kt : x ≤ y → zw_G B P Q nL σ tgt lv st) (kf : ¬ x ≤ y → zw_G B P Q nL σ (pc + 3) lv st) : zw_G B P Q nL σ pc lv (.int y :: .int x :: st) := by
  obtain ⟨p, l, e, R, s, m, args, below, meth, c⟩ := B
  intro H locs ls hP hS hl
  exact lv_icmp_le E.1 E.2.1 hd ht (fun q => kt q H locs ls hP hS hl) (fun q => kf q H locs ls hP hS hl)
theorem zr_goto {off : Int} {tgt : Nat} (E : zf B P cc own nL h) (hd : decode cc pc = .ok (.goto off, 3)) (ht : (pc : Int) + off = (tgt : Int)) (kk : zw_G B P Q nL σ tgt lv st) : zw_G B P Q nL σ pc lv st := by
  obtain ⟨p, l, e, R, s, m, args, below, meth, c⟩ := B
  intro H locs ls hP hS hl
  exact lv_goto E.1 E.2.1 hd ht (kk H locs ls hP hS hl)
theorem zr_tabIn {dflt lo hi : Int} {offs : Array Int} {len : Nat} {x v : Int32} {off : Int} {tgt : Nat} (E : zf B P cc own nL h) (hd : decode cc pc = .ok (.tableswitch dflt lo hi offs, len)) (hx : x = v) (h1 : ¬ v.toInt < lo) (h2 : ¬ hi < v.toInt) (ho : offs[(v.toInt - lo).toNat]? = some off) (ht : (pc : Int) + off = (tgt : Int)) (kk : zw_G B P Q nL σ tgt lv st) : zw_G B P Q nL σ pc lv (.int x :: st) := by
  obtain ⟨p, l, e, R, s, m, args, below, meth, c⟩ := B
  intro H locs ls hP hS hl
  subst hx
  exact lv_tableIn E.1 E.2.1 hd h1 h2 ho ht (kk H locs ls hP hS hl)
theorem zr_tabOut {dflt lo hi : Int} {offs : Array Int} {len : Nat} {x : Int32} {tgt : Nat} (E : zf B P cc own nL h) (hd : decode cc pc = .ok (.tableswitch dflt lo hi offs, len)) (hx : x.toInt < lo ∨ hi < x.toInt) (ht : (pc : Int) + dflt = (tgt : Int)) (kk : zw_G B P Q nL σ tgt lv st) : zw_G B P Q nL σ pc lv (.int x :: st) := by
  obtain ⟨p, l, e, R, s, m, args, below, meth, c⟩ := B
  intro H locs ls hP hS hl
  exact lv_tableOut E.1 E.2.1 hd hx ht (kk H locs ls hP hS hl)
theorem zr_iald {k n : Nat} {i v : Int32} (E : zf B P cc own nL h) (ha : zw_ar k = true ∧ zw_ln k = n) (hi : vp_in i n) (ev : v = σ k i.toNatClampNeg) (hd : decode cc pc = .ok (.iaload, 1)) (kk : zw_G B P Q nL σ (pc + 1) lv (.int v :: st)) : zw_G B P Q nL σ pc lv (.int i :: .ref (zw_ad P k) :: st) := by
  obtain ⟨p, l, e, R, s, m, args, below, meth, c⟩ := B
  intro H locs ls hP hS hl
  subst ev
  have he := zw_at P σ (zw_lt_ar ha.1)
  rw [zw_ce_ar P ha.1, ha.2] at he
  exact va_iald E.1 E.2.1 E.2.2.2.2.2.1.1 hP k 0 he rfl hi hd (kk H locs ls hP hS hl)
theorem zr_iast {k n : Nat} {i x : Int32} {τ : zw_S} (E : zf B P cc own nL h) (ha : zw_ar k = true ∧ zw_ln k = n) (hi : vp_in i n) (et : τ = zw_wr σ k i.toNatClampNeg x) (hd : decode cc pc = .ok (.iastore, 1)) (kk : zw_G B P Q nL τ (pc + 1) lv st) : zw_G B P Q nL σ pc lv (.int x :: .int i :: .ref (zw_ad P k) :: st) := by
  obtain ⟨p, l, e, R, s, m, args, below, meth, c⟩ := B
  intro H locs ls hP hS hl
  have he := zw_at P σ (zw_lt_ar ha.1)
  rw [zw_ce_ar P ha.1] at he
  refine va_iast E.1 E.2.1 E.2.2.2.2.2.1.1 hP (zw_D E.2.2.2.2.2.1 σ) hS k 0 he rfl (by rw [ha.2]; exact hi) hd (fun H1 locs1 hP1 _ hS1 => ?_)
  rw [← zw_ce_ar P ha.1 (upd (σ k) i.toNatClampNeg x), zw_set P σ (zw_lt_ar ha.1)] at hP1
  subst et
  exact kk H1 locs1 ls hP1 hS1 hl
theorem zr_alen {k n : Nat} {v : Int32} (E : zf B P cc own nL h) (ha : zw_ar k = true ∧ zw_ln k = n) (hv : Int32.ofNat n = v) (hd : decode cc pc = .ok (.arraylength, 1)) (kk : zw_G B P Q nL σ (pc + 1) lv (.int v :: st)) : zw_G B P Q nL σ pc lv (.ref (zw_ad P k) :: st) := by
  obtain ⟨p, l, e, R, s, m, args, below, meth, c⟩ := B
  intro H locs ls hP hS hl
  have he := zw_at P σ (zw_lt_ar ha.1)
  rw [zw_ce_ar P ha.1, ha.2] at he
  exact va_alen E.1 E.2.1 E.2.2.2.2.2.1.1 hP k 0 he (ty := .int) rfl hv hd (kk H locs ls hP hS hl)
theorem zr_sheet {i : Int32} (E : zf B P cc own nL h) (hi : vp_in i 4) (hd : decode cc pc = .ok (.aaload, 1)) (kk : zw_G B P Q nL σ (pc + 1) lv (.ref (zw_ad P (48 + 2 * i.toNatClampNeg)) :: st)) : zw_G B P Q nL σ pc lv (.int i :: .ref (zw_ad P 47) :: st) := by
  obtain ⟨p, l, e, R, s, m, args, below, meth, c⟩ := B
  intro H locs ls hP hS hl
  have he : (zw_W P σ)[47]? = some (zw_ad P 47, .inl (zw_cS P, (4, .inr (.inr (.inr (.inr (fun i => some (zw_ad P (48 + 2 * i))))))))) := zw_at P σ (by decide)
  exact va_aldq E.1 E.2.1 E.2.2.2.2.2.1.1 hP 47 1 he rfl hi hd (kk H locs ls hP hS hl)
theorem zr_get {ci N i k : Nat} {C : String} {T : u_T} {fs : List Value} {v : Value} (E : zf B P cc own nL h) (hin : ∀ w ∈ u_ws C T N, w ∈ wsL_law) (hc : vwCl[ci]? = some (C, T, N)) (hk : k < 69) (he : zw_ce P k (σ k) = .inr (ci, fs)) (j : Nat) (hj : j < N) (hl : Cond.fieldLink own i (T j).1 (T j).2.1 (T j).2.2.1 ∈ wsL_law) (hv : fs[j]? = some v) (hd : decode cc pc = .ok (.getfield i, 3)) (kk : zw_G B P Q nL σ (pc + 3) lv (v :: st)) : zw_G B P Q nL σ pc lv (.ref (zw_ad P k) :: st) := by
  obtain ⟨p, l, e, R, s, m, args, below, meth, c⟩ := B
  intro H locs ls hP hS hls
  have h0 := zw_at P σ hk
  rw [he] at h0
  exact va_get E.1 E.2.1 E.2.2.2.2.1 hin E.2.2.2.1 E.2.2.2.2.2.1.1 hP k h0 hc j hj (E.2.2.2.2.1 _ hl) (fun _ q => q) hv hd (kk H locs ls hP hS hls)
theorem zr_put {ci N i k : Nat} {C : String} {T : u_T} {fs : List Value} {x : Int32} {ty : FieldType} {τ : zw_S} (E : zf B P cc own nL h) (hin : ∀ w ∈ u_ws C T N, w ∈ wsL_law) (ty0 : Nat → FieldType) (hty : ∀ k, k < N → parseFieldDescriptor (T k).2.2.1 = some (ty0 k)) (hnm : ∀ a, a < N → ∀ b, b < N → a ≠ b → (T a).2.1 ≠ (T b).2.1) (hc : vwCl[ci]? = some (C, T, N)) (hk : k < 69) (he : zw_ce P k (σ k) = .inr (ci, fs)) (j : Nat) (hj : j < N) (hl : Cond.fieldLink own i (T j).1 (T j).2.1 (T j).2.2.1 ∈ wsL_law) (hfin : (T j).2.2.2 = false) (hpd : parseFieldDescriptor (T j).2.2.1 = some ty) (hn : narrow ty (.int x) = .int x) (hfit : fits ty (.int x) = true) (hlen : j < fs.length) (hset : .inr (ci, fs.set j (.int x)) = zw_ce P k (upd (σ k) j x)) (et : τ = zw_wr σ k j x) (hd : decode cc pc = .ok (.putfield i, 3)) (kk : zw_G B P Q nL τ (pc + 3) lv st) : zw_G B P Q nL σ pc lv (.int x :: .ref (zw_ad P k) :: st) := by
  obtain ⟨p, l, e, R, s, m, args, below, meth, c⟩ := B
  intro H locs ls hP hS hls
  have h0 := zw_at P σ hk
  rw [he] at h0
  refine va_put E.1 E.2.1 E.2.2.2.2.1 hin ty0 hty hnm E.2.2.2.1 E.2.2.2.2.2.1.1 hP (zw_D E.2.2.2.2.2.1 σ) hS k h0 hc j hj (E.2.2.2.2.1 _ hl) (fun _ q => q) hfin hpd hn hfit hlen hd (fun H1 locs1 hP1 _ hS1 => ?_)
  rw [hset, zw_set P σ hk] at hP1
  subst et
  exact kk H1 locs1 ls hP1 hS1 hls
theorem zr_abv {i : Nat} (E : zf B P cc own nL h) (hl : Cond.fieldLink own i "NameBook$Kinds" "ABOVE" "[I" ∈ wsL_law) (hd : decode cc pc = .ok (.getstatic i, 3)) (kk : zw_G B P Q nL σ (pc + 3) lv (.ref (zw_tK P) :: st)) : zw_G B P Q nL σ pc lv st := by
  obtain ⟨p, l, e, R, s, m, args, below, meth, c⟩ := B
  intro H locs ls hP hS hls
  exact va_gets E.1 E.2.1 E.2.2.2.2.2.1.2.2.1 hS E.2.2.2.1 (E.2.2.2.2.1 _ hl) (fun _ q => q) hd (kk H locs ls hP hS hls)
theorem zr_abvlen (E : zf B P cc own nL h) (hd : decode cc pc = .ok (.arraylength, 1)) (kk : zw_G B P Q nL σ (pc + 1) lv (.int 7 :: st)) : zw_G B P Q nL σ pc lv (.ref (zw_tK P) :: st) := by
  obtain ⟨p, l, e, R, s, m, args, below, meth, c⟩ := B
  intro H locs ls hP hS hls
  exact va_tlen E.1 E.2.1 E.2.2.2.2.2.1.2.2.2.1 hS rfl hd (kk H locs ls hP hS hls)
def zabv (i : Int32) : Int32 := ([-1, 0, 0, 2, 0, 4, 1] : List Int32).getD i.toNatClampNeg 0
theorem zr_abvld {i v : Int32} (E : zf B P cc own nL h) (hi : vp_in i 7) (ev : v = zabv i) (hd : decode cc pc = .ok (.iaload, 1)) (kk : zw_G B P Q nL σ (pc + 1) lv (.int v :: st)) : zw_G B P Q nL σ pc lv (.int i :: .ref (zw_tK P) :: st) := by
  obtain ⟨p, l, e, R, s, m, args, below, meth, c⟩ := B
  intro H locs ls hP hS hls
  subst ev
  exact va_ti E.1 E.2.1 E.2.2.2.2.2.1.2.2.2.1 hS hi rfl hd (kk H locs ls hP hS hls)
def zmax (x y : Int32) : Int32 := if x < y then y else x
def zmin (x y : Int32) : Int32 := if y < x then y else x
theorem zr_max {i : Nat} {x y : Int32} (E : zf B P cc own nL (h + 1)) (hl : Cond.methodLink own i Lib.Math.max.name ∈ wsL_law) (h2 : Cond.static Lib.Math.max.name ∈ wsL_law) (h3 : Cond.initialized "java/lang/Math" ∈ wsL_law) (h4 : Cond.code Lib.Math.max.name Lib.Math.max.code 2 (some .int) ∈ wsL_law) (hs : (st.map fun v => v.category).sum ≤ 8) (hd : decode cc pc = .ok (.invokestatic i, 3)) (kk : zw_G B P Q nL σ (pc + 3) lv (.int (zmax x y) :: st)) : zw_G B P Q nL σ pc lv (.int y :: .int x :: st) := by
  obtain ⟨p, l, e, R, s, m, args, below, meth, c⟩ := B
  intro H locs ls hP hS hls
  have hR : R = zw_rm (h + 1) := E.2.2.2.2.2.2.1
  exact va_mmax E.1 E.2.1 (E.2.2.1.trans hls.1.symm) E.2.2.2.1 (E.2.2.2.2.1 _ hl) (E.2.2.2.2.1 _ h2) (E.2.2.2.2.1 _ h3) (E.2.2.2.2.1 _ h4) (by rw [hR]; show 1 ≤ h + 1; omega) (by rw [hR]; show _ ≤ 48 * (h + 1); omega) (Nat.zero_le _) (Nat.zero_le _) hd (kk H locs ls hP hS hls)
theorem zr_min {i : Nat} {x y : Int32} (E : zf B P cc own nL (h + 1)) (hl : Cond.methodLink own i Lib.Math.min.name ∈ wsL_law) (h2 : Cond.static Lib.Math.min.name ∈ wsL_law) (h3 : Cond.initialized "java/lang/Math" ∈ wsL_law) (h4 : Cond.code Lib.Math.min.name Lib.Math.min.code 2 (some .int) ∈ wsL_law) (hs : (st.map fun v => v.category).sum ≤ 8) (hd : decode cc pc = .ok (.invokestatic i, 3)) (kk : zw_G B P Q nL σ (pc + 3) lv (.int (zmin x y) :: st)) : zw_G B P Q nL σ pc lv (.int y :: .int x :: st) := by
  obtain ⟨p, l, e, R, s, m, args, below, meth, c⟩ := B
  intro H locs ls hP hS hls
  have hR : R = zw_rm (h + 1) := E.2.2.2.2.2.2.1
  exact va_mmin E.1 E.2.1 (E.2.2.1.trans hls.1.symm) E.2.2.2.1 (E.2.2.2.2.1 _ hl) (E.2.2.2.2.1 _ h2) (E.2.2.2.2.1 _ h3) (E.2.2.2.2.1 _ h4) (by rw [hR]; show 1 ≤ h + 1; omega) (by rw [hR]; show _ ≤ 48 * (h + 1); omega) (Nat.zero_le _) (Nat.zero_le _) hd (kk H locs ls hP hS hls)
theorem zr_copy {i k1 k2 n1 n2 : Nat} {sp dp n : Int32} {τ : zw_S} (E : zf B P cc own nL (h + 1)) (hl : Cond.methodLink own i arraycopyName ∈ wsL_law) (h1 : Cond.native arraycopyName ∈ wsL_law) (h2 : Cond.static arraycopyName ∈ wsL_law) (h3 : Cond.initialized "java/lang/System" ∈ wsL_law) (ha1 : zw_ar k1 = true ∧ zw_ln k1 = n1) (ha2 : zw_ar k2 = true ∧ zw_ln k2 = n2) (hsp : ¬ sp < 0) (hdp : ¬ dp < 0) (hn : ¬ n < 0) (h4 : sp.toNatClampNeg + n.toNatClampNeg ≤ n1) (h5 : dp.toNatClampNeg + n.toNatClampNeg ≤ n2) (hs : (st.map fun v => v.category).sum ≤ 8) (et : τ = zw_us σ k2 (va_cpy (σ k1) (σ k2) sp.toNatClampNeg dp.toNatClampNeg n.toNatClampNeg)) (hd : decode cc pc = .ok (.invokestatic i, 3)) (kk : zw_G B P Q nL τ (pc + 3) lv st) : zw_G B P Q nL σ pc lv (.int n :: .int dp :: .ref (zw_ad P k2) :: .int sp :: .ref (zw_ad P k1) :: st) := by
  obtain ⟨p, l, e, R, s, m, args, below, meth, c⟩ := B
  intro H locs ls hP hS hls
  have hR : R = zw_rm (h + 1) := E.2.2.2.2.2.2.1
  have he1 := zw_at P σ (zw_lt_ar ha1.1)
  rw [zw_ce_ar P ha1.1] at he1
  have he2 := zw_at P σ (zw_lt_ar ha2.1)
  rw [zw_ce_ar P ha2.1] at he2
  have hw : nativeFrameWords "java/lang/System" "arraycopy" 5 ≤ 28 := by decide +kernel
  refine va_copyi E.1 E.2.1 (E.2.2.1.trans hls.1.symm) E.2.2.2.1 (E.2.2.2.2.1 _ hl) (E.2.2.2.2.1 _ h1) (E.2.2.2.2.1 _ h2) (E.2.2.2.2.1 _ h3) E.2.2.2.2.2.1.1 hP (zw_D E.2.2.2.2.2.1 σ) hS k1 k2 0 0 he1 he2 rfl rfl rfl hsp hdp hn (by rw [ha1.2]; exact h4) (by rw [ha2.2]; exact h5) (fun _ _ => rfl) (by rw [hR]; show 1 ≤ h + 1; omega) (by rw [hR]; show _ ≤ 48 * (h + 1); omega) hd (fun H1 locs1 hP1 _ hS1 => ?_)
  rw [← zw_ce_ar P ha2.1, zw_set P σ (zw_lt_ar ha2.1)] at hP1
  subst et
  exact kk H1 locs1 ls hP1 hS1 hls
theorem zr_iret {v r : Int32} {τ : zw_S} {rt : FieldType} (E : zf B P cc own nL h) (hr : B.2.2.2.2.2.2.2.2.1.sig.returnType = some rt) (hn : narrow rt (.int v) = .int v) (hm : some (v, σ) = some (r, τ)) (hd : decode cc pc = .ok (.ireturn, 1)) : zw_G B P (zq_i B P r τ) nL σ pc lv [.int v] := by
  obtain ⟨p, l, e, R, s, m, args, below, meth, c⟩ := B
  intro H locs ls hP hS hls
  cases hm
  exact W.zret E.1 E.2.1 hr hn (fun t ht hW => ⟨⟨v, σ, rfl, ⟨rfl, rfl⟩, by show va_P P.1 vwCl (zw_W P σ) t.heap; rw [ht]; exact hP⟩, hS.F ht⟩) hS.2.2 hd E.2.2.2.2.2.2.2
theorem zr_vret {τ : zw_S} (E : zf B P cc own nL h) (hr : B.2.2.2.2.2.2.2.2.1.sig.returnType = none) (hm : some σ = some τ) (hd : decode cc pc = .ok (.return_, 1)) : zw_G B P (zq_v B P τ) nL σ pc lv [] := by
  obtain ⟨p, l, e, R, s, m, args, below, meth, c⟩ := B
  intro H locs ls hP hS hls
  cases hm
  exact W.vret E.1 E.2.1 hr (fun t ht hW => ⟨⟨σ, rfl, rfl, by show va_P P.1 vwCl (zw_W P σ) t.heap; rw [ht]; exact hP⟩, hS.F ht⟩) hS.2.2 hd E.2.2.2.2.2.2.2
theorem zr_cVi {y : MethodName} {c1 : ByteArray} {n1 i ar h1 k : Nat} {rt : FieldType} {As st0 : List Value} {o : Option (Int32 × zw_S)} {r : Int32} {τ : zw_S} (E : zf B P cc own nL h) (hl : Cond.methodLink own i y ∈ wsL_law) (hw : zm_V y c1 n1 (some rt) ar) (hM : zc_i B.2.1 P y c1 n1 rt h1 (.ref (zw_ad P k) :: As) σ o) (ho : o = some (r, τ)) (hrc : zw_rc P k y.cls) (hh : h1 + 1 ≤ h ∧ 8 + (n1 + 11) + 48 * h1 ≤ 48 * h) (hn : As.length = ar) (hst : st0 = As.reverse ++ .ref (zw_ad P k) :: st) (hs : (st.map fun v => v.category).sum ≤ 8) (hd : decode cc pc = .ok (.invokevirtual i, 3)) (kk : zw_G B P Q nL τ (pc + 3) lv (.int r :: st)) : zw_G B P Q nL σ pc lv st0 := by
  obtain ⟨p, l, e, R, s, m, args, below, meth, c⟩ := B
  intro H locs ls hP hS hls
  obtain ⟨hx, hb, hml, hown, hts, hK, hR, hlk⟩ := E
  subst hR
  have hMet := hM r τ ho
  have hpre : ∀ U : State, U.heap = H → s.WarmedH U.vm → va_Pc ((.ref (zw_ad P k) :: As)) (zw_Pre P σ) ((.ref (zw_ad P k) :: As)).toArray U := fun U hU hW => ⟨rfl, by rw [hU]; exact hP, hK.at hS hU hW⟩
  have hbl : FrameBlind (va_Pc ((.ref (zw_ad P k) :: As)) (zw_Pre P σ)) := fun a U g mk q => ⟨q.1, q.2.1, q.2.2.blind⟩
  obtain ⟨hk, ci, T, N, hc, hce⟩ := hrc
  obtain ⟨fs, hfs⟩ := hce (σ k)
  have h0 := zw_at P σ hk
  rw [hfs] at h0
  have cb := callB_of (R := zw_rm h) (rm := zw_rm h1) (own := own) (index := i) ar hts (zm_in (c := .tt) hw.2.2.2.1) rfl rfl rfl (hts _ hw.2.2.1) (hts _ hl) ⟨hw.2.2.2.2.1, hw.2.2.2.2.2.1, hw.2.2.2.2.2.2⟩ hh
  have hrun := va_runV (rest := st) (g := F0 m pc ls st0) (locs := locs) (cells := 0) (slots := 0) (below := below) (meth := meth) (e := e) (R := zw_rm h) ⟨hx, hb, hml, hown, hts⟩ hMet ⟨cb, hts _ hw.1, hts _ hw.2.1⟩ ⟨hbl, va_recv hK.1 hP hc h0, hpre⟩ rfl hn hls.1 hst (lv_room hs) hd ⟨Nat.le_refl 0, Nat.le_refl 0⟩
  refine va_calli hrun hS (fun _ _ q => q) (fun _ q => q) (fun r1 u t H1 locs1 ht hvm hw1 hB hz1 hk1 hS1 => ?_)
  obtain ⟨rfl, rfl⟩ := hw1
  rw [ht] at hB
  exact kk H1 locs1 ls hB hS1 hls
theorem zr_cVv {y : MethodName} {c1 : ByteArray} {n1 i ar h1 k : Nat} {As st0 : List Value} {o : Option zw_S} {τ : zw_S} (E : zf B P cc own nL h) (hl : Cond.methodLink own i y ∈ wsL_law) (hw : zm_V y c1 n1 none ar) (hM : zc_v B.2.1 P y c1 n1  h1 (.ref (zw_ad P k) :: As) σ o) (ho : o = some τ) (hrc : zw_rc P k y.cls) (hh : h1 + 1 ≤ h ∧ 8 + (n1 + 11) + 48 * h1 ≤ 48 * h) (hn : As.length = ar) (hst : st0 = As.reverse ++ .ref (zw_ad P k) :: st) (hs : (st.map fun v => v.category).sum ≤ 8) (hd : decode cc pc = .ok (.invokevirtual i, 3)) (kk : zw_G B P Q nL τ (pc + 3) lv st) : zw_G B P Q nL σ pc lv st0 := by
  obtain ⟨p, l, e, R, s, m, args, below, meth, c⟩ := B
  intro H locs ls hP hS hls
  obtain ⟨hx, hb, hml, hown, hts, hK, hR, hlk⟩ := E
  subst hR
  have hMet := hM τ ho
  have hpre : ∀ U : State, U.heap = H → s.WarmedH U.vm → va_Pc ((.ref (zw_ad P k) :: As)) (zw_Pre P σ) ((.ref (zw_ad P k) :: As)).toArray U := fun U hU hW => ⟨rfl, by rw [hU]; exact hP, hK.at hS hU hW⟩
  have hbl : FrameBlind (va_Pc ((.ref (zw_ad P k) :: As)) (zw_Pre P σ)) := fun a U g mk q => ⟨q.1, q.2.1, q.2.2.blind⟩
  obtain ⟨hk, ci, T, N, hc, hce⟩ := hrc
  obtain ⟨fs, hfs⟩ := hce (σ k)
  have h0 := zw_at P σ hk
  rw [hfs] at h0
  have cb := callB_of (R := zw_rm h) (rm := zw_rm h1) (own := own) (index := i) ar hts (zm_in (c := .tt) hw.2.2.2.1) rfl rfl rfl (hts _ hw.2.2.1) (hts _ hl) ⟨hw.2.2.2.2.1, hw.2.2.2.2.2.1, hw.2.2.2.2.2.2⟩ hh
  have hrun := va_runV (rest := st) (g := F0 m pc ls st0) (locs := locs) (cells := 0) (slots := 0) (below := below) (meth := meth) (e := e) (R := zw_rm h) ⟨hx, hb, hml, hown, hts⟩ hMet ⟨cb, hts _ hw.1, hts _ hw.2.1⟩ ⟨hbl, va_recv hK.1 hP hc h0, hpre⟩ rfl hn hls.1 hst (lv_room hs) hd ⟨Nat.le_refl 0, Nat.le_refl 0⟩
  refine va_callv hrun hS (fun _ _ q => q) (fun _ q => q) (fun u t H1 locs1 ht hvm hw1 hB hz1 hk1 hS1 => ?_)
  subst hw1
  rw [ht] at hB
  exact kk H1 locs1 ls hB hS1 hls
theorem zr_cSi {y : MethodName} {c1 : ByteArray} {n1 i ar h1 : Nat} {rt : FieldType} {As st0 : List Value} {o : Option (Int32 × zw_S)} {r : Int32} {τ : zw_S} (E : zf B P cc own nL h) (hl : Cond.methodLink own i y ∈ wsL_law) (hw : zm_S y c1 n1 (some rt) ar) (hM : zc_i B.2.1 P y c1 n1 rt h1 As σ o) (ho : o = some (r, τ)) (hh : h1 + 1 ≤ h ∧ 8 + (n1 + 11) + 48 * h1 ≤ 48 * h) (hn : As.length = ar) (hst : st0 = As.reverse ++ st) (hs : (st.map fun v => v.category).sum ≤ 8) (hd : decode cc pc = .ok (.invokestatic i, 3)) (kk : zw_G B P Q nL τ (pc + 3) lv (.int r :: st)) : zw_G B P Q nL σ pc lv st0 := by
  obtain ⟨p, l, e, R, s, m, args, below, meth, c⟩ := B
  intro H locs ls hP hS hls
  obtain ⟨hx, hb, hml, hown, hts, hK, hR, hlk⟩ := E
  subst hR
  have hMet := hM r τ ho
  have hpre : ∀ U : State, U.heap = H → s.WarmedH U.vm → va_Pc (As) (zw_Pre P σ) (As).toArray U := fun U hU hW => ⟨rfl, by rw [hU]; exact hP, hK.at hS hU hW⟩
  have hbl : FrameBlind (va_Pc (As) (zw_Pre P σ)) := fun a U g mk q => ⟨q.1, q.2.1, q.2.2.blind⟩
  have cb := callB_of (R := zw_rm h) (rm := zw_rm h1) (own := own) (index := i) ar hts (zm_in (c := .tt) hw.2.2.1) rfl rfl rfl (hts _ hw.2.1) (hts _ hl) ⟨hw.2.2.2.1, hw.2.2.2.2.1, hw.2.2.2.2.2⟩ hh
  have hrun := va_runS (rest := st) (g := F0 m pc ls st0) (locs := locs) (cells := 0) (slots := 0) (below := below) (meth := meth) (e := e) (R := zw_rm h) ⟨hx, hb, hml, hown, hts⟩ hMet ⟨cb, hts _ hw.1⟩ ⟨hbl, hpre⟩ rfl hn hls.1 hst (lv_room hs) hd ⟨Nat.le_refl 0, Nat.le_refl 0⟩
  refine va_calli hrun hS (fun _ _ q => q) (fun _ q => q) (fun r1 u t H1 locs1 ht hvm hw1 hB hz1 hk1 hS1 => ?_)
  obtain ⟨rfl, rfl⟩ := hw1
  rw [ht] at hB
  exact kk H1 locs1 ls hB hS1 hls
theorem zr_cSv {y : MethodName} {c1 : ByteArray} {n1 i ar h1 : Nat} {As st0 : List Value} {o : Option zw_S} {τ : zw_S} (E : zf B P cc own nL h) (hl : Cond.methodLink own i y ∈ wsL_law) (hw : zm_S y c1 n1 none ar) (hM : zc_v B.2.1 P y c1 n1  h1 As σ o) (ho : o = some τ) (hh : h1 + 1 ≤ h ∧ 8 + (n1 + 11) + 48 * h1 ≤ 48 * h) (hn : As.length = ar) (hst : st0 = As.reverse ++ st) (hs : (st.map fun v => v.category).sum ≤ 8) (hd : decode cc pc = .ok (.invokestatic i, 3)) (kk : zw_G B P Q nL τ (pc + 3) lv st) : zw_G B P Q nL σ pc lv st0 := by
  obtain ⟨p, l, e, R, s, m, args, below, meth, c⟩ := B
  intro H locs ls hP hS hls
  obtain ⟨hx, hb, hml, hown, hts, hK, hR, hlk⟩ := E
  subst hR
  have hMet := hM τ ho
  have hpre : ∀ U : State, U.heap = H → s.WarmedH U.vm → va_Pc (As) (zw_Pre P σ) (As).toArray U := fun U hU hW => ⟨rfl, by rw [hU]; exact hP, hK.at hS hU hW⟩
  have hbl : FrameBlind (va_Pc (As) (zw_Pre P σ)) := fun a U g mk q => ⟨q.1, q.2.1, q.2.2.blind⟩
  have cb := callB_of (R := zw_rm h) (rm := zw_rm h1) (own := own) (index := i) ar hts (zm_in (c := .tt) hw.2.2.1) rfl rfl rfl (hts _ hw.2.1) (hts _ hl) ⟨hw.2.2.2.1, hw.2.2.2.2.1, hw.2.2.2.2.2⟩ hh
  have hrun := va_runS (rest := st) (g := F0 m pc ls st0) (locs := locs) (cells := 0) (slots := 0) (below := below) (meth := meth) (e := e) (R := zw_rm h) ⟨hx, hb, hml, hown, hts⟩ hMet ⟨cb, hts _ hw.1⟩ ⟨hbl, hpre⟩ rfl hn hls.1 hst (lv_room hs) hd ⟨Nat.le_refl 0, Nat.le_refl 0⟩
  refine va_callv hrun hS (fun _ _ q => q) (fun _ q => q) (fun u t H1 locs1 ht hvm hw1 hB hz1 hk1 hS1 => ?_)
  subst hw1
  rw [ht] at hB
  exact kk H1 locs1 ls hB hS1 hls
end ZR
/-- from the walk of a method's body to its contract -/
theorem zc_i.of {l : Launch} {P : zw_P} {y : MethodName} {cc : ByteArray} {nL : Nat} {rt : FieldType} {h : Nat} {args : List Value} {σ : zw_S} {o : Option (Int32 × zw_S)} (hy : plainName y.cls = true) (ha : (lg_sl args).length ≤ nL)
    (body : ∀ (B : zw_B) (r : Int32) (τ : zw_S), zf B P cc y.cls nL h → B.2.1 = l → B.2.2.2.2.2.2.2.2.1.sig.returnType = some rt → o = some (r, τ) → zw_G B P (zq_i B P r τ) nL σ 0 (lv_args 0 args) []) : zc_i l P y cc nL rt h args σ o := by
  intro r τ ho
  refine Met.ofW (cc := cc) (maxL := nL) (ret := some rt) hy rfl ?_
  intro p e s m args' below meth c s₁ B hml hv
  obtain ⟨rfl, hP, hK⟩ := hv
  have hts := atoms_spec (ws := Cond.code y cc nL (some rt) :: wsL_law) B.pre
  have hb := body (p, l, e, zw_rm h, s, m, args.toArray, below, meth, c) r τ ⟨B.exec, B.bytes, hml, findClass_of_methodNamed B.named, fun w hw => hts w (List.mem_cons_of_mem _ hw), hK, rfl, B.notSynchronized⟩ rfl B.returns ho
  rw [lg_entry_eq]
  exact hb s.heap [] _ hP va_S.rf (lv_entry args ha)
theorem zc_v.of {l : Launch} {P : zw_P} {y : MethodName} {cc : ByteArray} {nL : Nat} {h : Nat} {args : List Value} {σ : zw_S} {o : Option zw_S} (hy : plainName y.cls = true) (ha : (lg_sl args).length ≤ nL)
    (body : ∀ (B : zw_B) (τ : zw_S), zf B P cc y.cls nL h → B.2.1 = l → B.2.2.2.2.2.2.2.2.1.sig.returnType = none → o = some τ → zw_G B P (zq_v B P τ) nL σ 0 (lv_args 0 args) []) : zc_v l P y cc nL h args σ o := by
  intro τ ho
  refine Met.ofW (cc := cc) (maxL := nL) (ret := none) hy rfl ?_
  intro p e s m args' below meth c s₁ B hml hv
  obtain ⟨rfl, hP, hK⟩ := hv
  have hts := atoms_spec (ws := Cond.code y cc nL none :: wsL_law) B.pre
  have hb := body (p, l, e, zw_rm h, s, m, args.toArray, below, meth, c) τ ⟨B.exec, B.bytes, hml, findClass_of_methodNamed B.named, fun w hw => hts w (List.mem_cons_of_mem _ hw), hK, rfl, B.notSynchronized⟩ rfl B.returns ho
  rw [lg_entry_eq]
  exact hb s.heap [] _ hP va_S.rf (lv_entry args ha)
/-- a switch's other values -/
theorem sw_out {x : Int32} (lo : Int) (n : Nat) (hlo : -1000 ≤ lo ∧ lo ≤ 1000) (hn : n ≤ 1000) (hne : ∀ j : Nat, j < n → ¬ x = Int32.ofInt (lo + j)) (hi : Int) (hhi : hi = lo + n - 1) : x.toInt < lo ∨ hi < x.toInt := by
  rcases Int.lt_or_le x.toInt lo with h | h
  · exact Or.inl h
  · rcases Int.lt_or_le hi x.toInt with h2 | h2
    · exact Or.inr h2
    · exfalso
      refine hne (x.toInt - lo).toNat (by omega) ?_
      rw [show lo + ((x.toInt - lo).toNat : Int) = x.toInt by omega]
      exact (Int32.ofInt_toInt x).symm
end
