section
/-- a private method of a class that the tables say can be made, by its rows of tables_1 -/
def lw_okq (q : MethodName × Nat) : Prop := (q.1.cls ≠ "java/lang/invoke/MethodHandle" ∧ q.1.cls ≠ "java/lang/invoke/VarHandle") ∧ Cond.instantiable q.1.cls q.2 ∈ tables_1 ∧ Cond.privateMethod q.1 ∈ tables_1 ∧ Cond.instanceMethod q.1 ∈ tables_1
theorem lw_p0 : lw_okq (⟨"PartedSums", "freshTrial", "()LPartedSums$State;"⟩, 6) := ⟨⟨by decide +kernel, by decide +kernel⟩, List.mem_of_getElem? (i := 10) (by decide +kernel), List.mem_of_getElem? (i := 197) (by decide +kernel), List.mem_of_getElem? (i := 198) (by decide +kernel)⟩
theorem lw_p1 : lw_okq (⟨"PartedSums", "settle", "(I)I"⟩, 6) := ⟨⟨by decide +kernel, by decide +kernel⟩, List.mem_of_getElem? (i := 10) (by decide +kernel), List.mem_of_getElem? (i := 235) (by decide +kernel), List.mem_of_getElem? (i := 236) (by decide +kernel)⟩
theorem lw_p2 : lw_okq (⟨"PartedSums$State", "insertLetter", "(I)LPartedSums$Letter;"⟩, 11) := ⟨⟨by decide +kernel, by decide +kernel⟩, List.mem_of_getElem? (i := 18) (by decide +kernel), List.mem_of_getElem? (i := 373) (by decide +kernel), List.mem_of_getElem? (i := 374) (by decide +kernel)⟩
theorem lw_p3 : lw_okq (⟨"PartedSums$State", "receive", "(LPartedSums$Letter;)V"⟩, 11) := ⟨⟨by decide +kernel, by decide +kernel⟩, List.mem_of_getElem? (i := 18) (by decide +kernel), List.mem_of_getElem? (i := 385) (by decide +kernel), List.mem_of_getElem? (i := 386) (by decide +kernel)⟩
theorem lw_p4 : lw_okq (⟨"PartedSums$State", "removeLetters", "(I)V"⟩, 11) := ⟨⟨by decide +kernel, by decide +kernel⟩, List.mem_of_getElem? (i := 18) (by decide +kernel), List.mem_of_getElem? (i := 389) (by decide +kernel), List.mem_of_getElem? (i := 390) (by decide +kernel)⟩
theorem lw_p5 : lw_okq (⟨"PartedSums", "tryMerging", "(II)I"⟩, 6) := ⟨⟨by decide +kernel, by decide +kernel⟩, List.mem_of_getElem? (i := 10) (by decide +kernel), List.mem_of_getElem? (i := 448) (by decide +kernel), List.mem_of_getElem? (i := 449) (by decide +kernel)⟩
theorem lw_p6 : lw_okq (⟨"PartedSums$State", "viewBehind", "(I)I"⟩, 11) := ⟨⟨by decide +kernel, by decide +kernel⟩, List.mem_of_getElem? (i := 18) (by decide +kernel), List.mem_of_getElem? (i := 479) (by decide +kernel), List.mem_of_getElem? (i := 480) (by decide +kernel)⟩
theorem lw_p7 : lw_okq (⟨"PartedSums", "partsLackedOfAll", "(I)I"⟩, 6) := ⟨⟨by decide +kernel, by decide +kernel⟩, List.mem_of_getElem? (i := 10) (by decide +kernel), List.mem_of_getElem? (i := 492) (by decide +kernel), List.mem_of_getElem? (i := 493) (by decide +kernel)⟩
theorem lw_p8 : lw_okq (⟨"PartedSums$Script", "readOrder", "(I)Z"⟩, 9) := ⟨⟨by decide +kernel, by decide +kernel⟩, List.mem_of_getElem? (i := 135) (by decide +kernel), List.mem_of_getElem? (i := 528) (by decide +kernel), List.mem_of_getElem? (i := 529) (by decide +kernel)⟩
theorem lw_p9 : lw_okq (⟨"PartedSums$Script", "readNumber", "(I)Z"⟩, 9) := ⟨⟨by decide +kernel, by decide +kernel⟩, List.mem_of_getElem? (i := 135) (by decide +kernel), List.mem_of_getElem? (i := 535) (by decide +kernel), List.mem_of_getElem? (i := 536) (by decide +kernel)⟩
theorem lw_p10 : lw_okq (⟨"PartedSums$Script", "readSign", "(C)Z"⟩, 9) := ⟨⟨by decide +kernel, by decide +kernel⟩, List.mem_of_getElem? (i := 135) (by decide +kernel), List.mem_of_getElem? (i := 540) (by decide +kernel), List.mem_of_getElem? (i := 541) (by decide +kernel)⟩
theorem lw_p11 : lw_okq (⟨"PartedSums$Script", "noteFault", "(III)V"⟩, 9) := ⟨⟨by decide +kernel, by decide +kernel⟩, List.mem_of_getElem? (i := 135) (by decide +kernel), List.mem_of_getElem? (i := 544) (by decide +kernel), List.mem_of_getElem? (i := 545) (by decide +kernel)⟩
theorem lw_p12 : lw_okq (⟨"PartedSums$Script", "doOrder", "(LPartedSums$State;)I"⟩, 9) := ⟨⟨by decide +kernel, by decide +kernel⟩, List.mem_of_getElem? (i := 135) (by decide +kernel), List.mem_of_getElem? (i := 548) (by decide +kernel), List.mem_of_getElem? (i := 549) (by decide +kernel)⟩
theorem lw_p13 : lw_okq (⟨"PartedSumsModel", "isView", "(I)Z"⟩, 15) := ⟨⟨by decide +kernel, by decide +kernel⟩, List.mem_of_getElem? (i := 563) (by decide +kernel), List.mem_of_getElem? (i := 619) (by decide +kernel), List.mem_of_getElem? (i := 620) (by decide +kernel)⟩
theorem lw_p14 : lw_okq (⟨"PartedSumsModel", "changes", "()V"⟩, 15) := ⟨⟨by decide +kernel, by decide +kernel⟩, List.mem_of_getElem? (i := 563) (by decide +kernel), List.mem_of_getElem? (i := 628) (by decide +kernel), List.mem_of_getElem? (i := 629) (by decide +kernel)⟩
theorem lw_p15 : lw_okq (⟨"PartedSumsModel", "isWriter", "(I)Z"⟩, 15) := ⟨⟨by decide +kernel, by decide +kernel⟩, List.mem_of_getElem? (i := 563) (by decide +kernel), List.mem_of_getElem? (i := 642) (by decide +kernel), List.mem_of_getElem? (i := 643) (by decide +kernel)⟩
def lw_privs_1 : List (MethodName × Nat) := [(⟨"PartedSums", "freshTrial", "()LPartedSums$State;"⟩, 6), (⟨"PartedSums", "settle", "(I)I"⟩, 6), (⟨"PartedSums$State", "insertLetter", "(I)LPartedSums$Letter;"⟩, 11), (⟨"PartedSums$State", "receive", "(LPartedSums$Letter;)V"⟩, 11), (⟨"PartedSums$State", "removeLetters", "(I)V"⟩, 11), (⟨"PartedSums", "tryMerging", "(II)I"⟩, 6), (⟨"PartedSums$State", "viewBehind", "(I)I"⟩, 11), (⟨"PartedSums", "partsLackedOfAll", "(I)I"⟩, 6), (⟨"PartedSums$Script", "readOrder", "(I)Z"⟩, 9), (⟨"PartedSums$Script", "readNumber", "(I)Z"⟩, 9), (⟨"PartedSums$Script", "readSign", "(C)Z"⟩, 9), (⟨"PartedSums$Script", "noteFault", "(III)V"⟩, 9), (⟨"PartedSums$Script", "doOrder", "(LPartedSums$State;)I"⟩, 9), (⟨"PartedSumsModel", "isView", "(I)Z"⟩, 15), (⟨"PartedSumsModel", "changes", "()V"⟩, 15), (⟨"PartedSumsModel", "isWriter", "(I)Z"⟩, 15)]
theorem lw_r1 : ∀ q ∈ lw_privs_1, lw_okq q := List.forall_mem_cons.mpr ⟨lw_p0, List.forall_mem_cons.mpr ⟨lw_p1, List.forall_mem_cons.mpr ⟨lw_p2, List.forall_mem_cons.mpr ⟨lw_p3, List.forall_mem_cons.mpr ⟨lw_p4, List.forall_mem_cons.mpr ⟨lw_p5, List.forall_mem_cons.mpr ⟨lw_p6, List.forall_mem_cons.mpr ⟨lw_p7, List.forall_mem_cons.mpr ⟨lw_p8, List.forall_mem_cons.mpr ⟨lw_p9, List.forall_mem_cons.mpr ⟨lw_p10, List.forall_mem_cons.mpr ⟨lw_p11, List.forall_mem_cons.mpr ⟨lw_p12, List.forall_mem_cons.mpr ⟨lw_p13, List.forall_mem_cons.mpr ⟨lw_p14, List.forall_mem_cons.mpr ⟨lw_p15, fun _ h => absurd h List.not_mem_nil⟩⟩⟩⟩⟩⟩⟩⟩⟩⟩⟩⟩⟩⟩⟩⟩
theorem lw_p16 : lw_okq (⟨"PartedSumsModel", "isRetired", "(I)Z"⟩, 15) := ⟨⟨by decide +kernel, by decide +kernel⟩, List.mem_of_getElem? (i := 563) (by decide +kernel), List.mem_of_getElem? (i := 646) (by decide +kernel), List.mem_of_getElem? (i := 647) (by decide +kernel)⟩
theorem lw_p17 : lw_okq (⟨"PartedSumsModel", "ofWriter", "(II)I"⟩, 15) := ⟨⟨by decide +kernel, by decide +kernel⟩, List.mem_of_getElem? (i := 563) (by decide +kernel), List.mem_of_getElem? (i := 650) (by decide +kernel), List.mem_of_getElem? (i := 651) (by decide +kernel)⟩
theorem lw_p18 : lw_okq (⟨"PartedSumsModel", "writes", "(III)I"⟩, 15) := ⟨⟨by decide +kernel, by decide +kernel⟩, List.mem_of_getElem? (i := 563) (by decide +kernel), List.mem_of_getElem? (i := 655) (by decide +kernel), List.mem_of_getElem? (i := 656) (by decide +kernel)⟩
theorem lw_p19 : lw_okq (⟨"PartedSumsModel", "ownPart", "(I)I"⟩, 15) := ⟨⟨by decide +kernel, by decide +kernel⟩, List.mem_of_getElem? (i := 563) (by decide +kernel), List.mem_of_getElem? (i := 659) (by decide +kernel), List.mem_of_getElem? (i := 660) (by decide +kernel)⟩
theorem lw_p20 : lw_okq (⟨"PartedSumsModel", "sum", "(II)I"⟩, 15) := ⟨⟨by decide +kernel, by decide +kernel⟩, List.mem_of_getElem? (i := 563) (by decide +kernel), List.mem_of_getElem? (i := 663) (by decide +kernel), List.mem_of_getElem? (i := 664) (by decide +kernel)⟩
theorem lw_p21 : lw_okq (⟨"PartedSumsModel", "forgets", "(I)V"⟩, 15) := ⟨⟨by decide +kernel, by decide +kernel⟩, List.mem_of_getElem? (i := 563) (by decide +kernel), List.mem_of_getElem? (i := 675) (by decide +kernel), List.mem_of_getElem? (i := 676) (by decide +kernel)⟩
theorem lw_p22 : lw_okq (⟨"PartedSumsModel", "active", "()I"⟩, 15) := ⟨⟨by decide +kernel, by decide +kernel⟩, List.mem_of_getElem? (i := 563) (by decide +kernel), List.mem_of_getElem? (i := 679) (by decide +kernel), List.mem_of_getElem? (i := 680) (by decide +kernel)⟩
theorem lw_p23 : lw_okq (⟨"PartedSumsModel", "lays", "(II)V"⟩, 15) := ⟨⟨by decide +kernel, by decide +kernel⟩, List.mem_of_getElem? (i := 563) (by decide +kernel), List.mem_of_getElem? (i := 691) (by decide +kernel), List.mem_of_getElem? (i := 692) (by decide +kernel)⟩
theorem lw_p24 : lw_okq (⟨"PartedSumsModel", "homers", "(I)I"⟩, 15) := ⟨⟨by decide +kernel, by decide +kernel⟩, List.mem_of_getElem? (i := 563) (by decide +kernel), List.mem_of_getElem? (i := 699) (by decide +kernel), List.mem_of_getElem? (i := 700) (by decide +kernel)⟩
theorem lw_p25 : lw_okq (⟨"PartedSumsModel", "views", "()I"⟩, 15) := ⟨⟨by decide +kernel, by decide +kernel⟩, List.mem_of_getElem? (i := 563) (by decide +kernel), List.mem_of_getElem? (i := 703) (by decide +kernel), List.mem_of_getElem? (i := 704) (by decide +kernel)⟩
theorem lw_p26 : lw_okq (⟨"PartedSumsModel", "takesIn", "(II)I"⟩, 15) := ⟨⟨by decide +kernel, by decide +kernel⟩, List.mem_of_getElem? (i := 563) (by decide +kernel), List.mem_of_getElem? (i := 714) (by decide +kernel), List.mem_of_getElem? (i := 715) (by decide +kernel)⟩
theorem lw_p27 : lw_okq (⟨"PartedSumsModel", "goes", "()I"⟩, 15) := ⟨⟨by decide +kernel, by decide +kernel⟩, List.mem_of_getElem? (i := 563) (by decide +kernel), List.mem_of_getElem? (i := 729) (by decide +kernel), List.mem_of_getElem? (i := 730) (by decide +kernel)⟩
theorem lw_p28 : lw_okq (⟨"PartedSumsModel", "ofLetter", "(II)I"⟩, 15) := ⟨⟨by decide +kernel, by decide +kernel⟩, List.mem_of_getElem? (i := 563) (by decide +kernel), List.mem_of_getElem? (i := 733) (by decide +kernel), List.mem_of_getElem? (i := 734) (by decide +kernel)⟩
theorem lw_p29 : lw_okq (⟨"PartedSumsModel", "comes", "(I)Z"⟩, 15) := ⟨⟨by decide +kernel, by decide +kernel⟩, List.mem_of_getElem? (i := 563) (by decide +kernel), List.mem_of_getElem? (i := 737) (by decide +kernel), List.mem_of_getElem? (i := 738) (by decide +kernel)⟩
theorem lw_p30 : lw_okq (⟨"PartedSumsModel", "isLost", "(I)Z"⟩, 15) := ⟨⟨by decide +kernel, by decide +kernel⟩, List.mem_of_getElem? (i := 563) (by decide +kernel), List.mem_of_getElem? (i := 741) (by decide +kernel), List.mem_of_getElem? (i := 742) (by decide +kernel)⟩
theorem lw_p31 : lw_okq (⟨"PartedSumsModel", "known", "(I)I"⟩, 15) := ⟨⟨by decide +kernel, by decide +kernel⟩, List.mem_of_getElem? (i := 563) (by decide +kernel), List.mem_of_getElem? (i := 749) (by decide +kernel), List.mem_of_getElem? (i := 750) (by decide +kernel)⟩
def lw_privs_2 : List (MethodName × Nat) := [(⟨"PartedSumsModel", "isRetired", "(I)Z"⟩, 15), (⟨"PartedSumsModel", "ofWriter", "(II)I"⟩, 15), (⟨"PartedSumsModel", "writes", "(III)I"⟩, 15), (⟨"PartedSumsModel", "ownPart", "(I)I"⟩, 15), (⟨"PartedSumsModel", "sum", "(II)I"⟩, 15), (⟨"PartedSumsModel", "forgets", "(I)V"⟩, 15), (⟨"PartedSumsModel", "active", "()I"⟩, 15), (⟨"PartedSumsModel", "lays", "(II)V"⟩, 15), (⟨"PartedSumsModel", "homers", "(I)I"⟩, 15), (⟨"PartedSumsModel", "views", "()I"⟩, 15), (⟨"PartedSumsModel", "takesIn", "(II)I"⟩, 15), (⟨"PartedSumsModel", "goes", "()I"⟩, 15), (⟨"PartedSumsModel", "ofLetter", "(II)I"⟩, 15), (⟨"PartedSumsModel", "comes", "(I)Z"⟩, 15), (⟨"PartedSumsModel", "isLost", "(I)Z"⟩, 15), (⟨"PartedSumsModel", "known", "(I)I"⟩, 15)]
theorem lw_r2 : ∀ q ∈ lw_privs_2, lw_okq q := List.forall_mem_cons.mpr ⟨lw_p16, List.forall_mem_cons.mpr ⟨lw_p17, List.forall_mem_cons.mpr ⟨lw_p18, List.forall_mem_cons.mpr ⟨lw_p19, List.forall_mem_cons.mpr ⟨lw_p20, List.forall_mem_cons.mpr ⟨lw_p21, List.forall_mem_cons.mpr ⟨lw_p22, List.forall_mem_cons.mpr ⟨lw_p23, List.forall_mem_cons.mpr ⟨lw_p24, List.forall_mem_cons.mpr ⟨lw_p25, List.forall_mem_cons.mpr ⟨lw_p26, List.forall_mem_cons.mpr ⟨lw_p27, List.forall_mem_cons.mpr ⟨lw_p28, List.forall_mem_cons.mpr ⟨lw_p29, List.forall_mem_cons.mpr ⟨lw_p30, List.forall_mem_cons.mpr ⟨lw_p31, fun _ h => absurd h List.not_mem_nil⟩⟩⟩⟩⟩⟩⟩⟩⟩⟩⟩⟩⟩⟩⟩⟩
theorem lw_p32 : lw_okq (⟨"PartedSumsModel", "alike", "(I)I"⟩, 15) := ⟨⟨by decide +kernel, by decide +kernel⟩, List.mem_of_getElem? (i := 563) (by decide +kernel), List.mem_of_getElem? (i := 753) (by decide +kernel), List.mem_of_getElem? (i := 754) (by decide +kernel)⟩
theorem lw_p33 : lw_okq (⟨"PartedSumsModel", "isSame", "(II)Z"⟩, 15) := ⟨⟨by decide +kernel, by decide +kernel⟩, List.mem_of_getElem? (i := 563) (by decide +kernel), List.mem_of_getElem? (i := 757) (by decide +kernel), List.mem_of_getElem? (i := 758) (by decide +kernel)⟩
theorem lw_p34 : lw_okq (⟨"PartedSumsModel", "viewsWith", "(IZ)I"⟩, 15) := ⟨⟨by decide +kernel, by decide +kernel⟩, List.mem_of_getElem? (i := 563) (by decide +kernel), List.mem_of_getElem? (i := 770) (by decide +kernel), List.mem_of_getElem? (i := 771) (by decide +kernel)⟩
theorem lw_p35 : lw_okq (⟨"PartedSumsModel", "letterAt", "(I)I"⟩, 15) := ⟨⟨by decide +kernel, by decide +kernel⟩, List.mem_of_getElem? (i := 563) (by decide +kernel), List.mem_of_getElem? (i := 778) (by decide +kernel), List.mem_of_getElem? (i := 779) (by decide +kernel)⟩
theorem lw_p36 : lw_okq (⟨"PartedSumsModel", "lacking", "(III)I"⟩, 15) := ⟨⟨by decide +kernel, by decide +kernel⟩, List.mem_of_getElem? (i := 563) (by decide +kernel), List.mem_of_getElem? (i := 786) (by decide +kernel), List.mem_of_getElem? (i := 787) (by decide +kernel)⟩
theorem lw_p37 : lw_okq (⟨"PartedSumsModel", "first", "()I"⟩, 15) := ⟨⟨by decide +kernel, by decide +kernel⟩, List.mem_of_getElem? (i := 563) (by decide +kernel), List.mem_of_getElem? (i := 797) (by decide +kernel), List.mem_of_getElem? (i := 798) (by decide +kernel)⟩
theorem lw_p38 : lw_okq (⟨"PartedSumsModel", "following", "(I)I"⟩, 15) := ⟨⟨by decide +kernel, by decide +kernel⟩, List.mem_of_getElem? (i := 563) (by decide +kernel), List.mem_of_getElem? (i := 809) (by decide +kernel), List.mem_of_getElem? (i := 810) (by decide +kernel)⟩
theorem lw_p39 : lw_okq (⟨"PartedSumsModel", "plays", "()Z"⟩, 15) := ⟨⟨by decide +kernel, by decide +kernel⟩, List.mem_of_getElem? (i := 563) (by decide +kernel), List.mem_of_getElem? (i := 841) (by decide +kernel), List.mem_of_getElem? (i := 842) (by decide +kernel)⟩
theorem lw_p40 : lw_okq (⟨"PartedSumsModel", "reads", "()Z"⟩, 15) := ⟨⟨by decide +kernel, by decide +kernel⟩, List.mem_of_getElem? (i := 563) (by decide +kernel), List.mem_of_getElem? (i := 845) (by decide +kernel), List.mem_of_getElem? (i := 846) (by decide +kernel)⟩
theorem lw_p41 : lw_okq (⟨"PartedSumsModel", "isAt", "(II)Z"⟩, 15) := ⟨⟨by decide +kernel, by decide +kernel⟩, List.mem_of_getElem? (i := 563) (by decide +kernel), List.mem_of_getElem? (i := 849) (by decide +kernel), List.mem_of_getElem? (i := 850) (by decide +kernel)⟩
theorem lw_p42 : lw_okq (⟨"PartedSumsModel", "number", "(I)Z"⟩, 15) := ⟨⟨by decide +kernel, by decide +kernel⟩, List.mem_of_getElem? (i := 563) (by decide +kernel), List.mem_of_getElem? (i := 856) (by decide +kernel), List.mem_of_getElem? (i := 857) (by decide +kernel)⟩
theorem lw_p43 : lw_okq (⟨"PartedSumsModel", "sign", "(I)Z"⟩, 15) := ⟨⟨by decide +kernel, by decide +kernel⟩, List.mem_of_getElem? (i := 563) (by decide +kernel), List.mem_of_getElem? (i := 860) (by decide +kernel), List.mem_of_getElem? (i := 861) (by decide +kernel)⟩
theorem lw_p44 : lw_okq (⟨"PartedSumsModel", "calls", "()I"⟩, 15) := ⟨⟨by decide +kernel, by decide +kernel⟩, List.mem_of_getElem? (i := 563) (by decide +kernel), List.mem_of_getElem? (i := 864) (by decide +kernel), List.mem_of_getElem? (i := 865) (by decide +kernel)⟩
def lw_privs_3 : List (MethodName × Nat) := [(⟨"PartedSumsModel", "alike", "(I)I"⟩, 15), (⟨"PartedSumsModel", "isSame", "(II)Z"⟩, 15), (⟨"PartedSumsModel", "viewsWith", "(IZ)I"⟩, 15), (⟨"PartedSumsModel", "letterAt", "(I)I"⟩, 15), (⟨"PartedSumsModel", "lacking", "(III)I"⟩, 15), (⟨"PartedSumsModel", "first", "()I"⟩, 15), (⟨"PartedSumsModel", "following", "(I)I"⟩, 15), (⟨"PartedSumsModel", "plays", "()Z"⟩, 15), (⟨"PartedSumsModel", "reads", "()Z"⟩, 15), (⟨"PartedSumsModel", "isAt", "(II)Z"⟩, 15), (⟨"PartedSumsModel", "number", "(I)Z"⟩, 15), (⟨"PartedSumsModel", "sign", "(I)Z"⟩, 15), (⟨"PartedSumsModel", "calls", "()I"⟩, 15)]
theorem lw_r3 : ∀ q ∈ lw_privs_3, lw_okq q := List.forall_mem_cons.mpr ⟨lw_p32, List.forall_mem_cons.mpr ⟨lw_p33, List.forall_mem_cons.mpr ⟨lw_p34, List.forall_mem_cons.mpr ⟨lw_p35, List.forall_mem_cons.mpr ⟨lw_p36, List.forall_mem_cons.mpr ⟨lw_p37, List.forall_mem_cons.mpr ⟨lw_p38, List.forall_mem_cons.mpr ⟨lw_p39, List.forall_mem_cons.mpr ⟨lw_p40, List.forall_mem_cons.mpr ⟨lw_p41, List.forall_mem_cons.mpr ⟨lw_p42, List.forall_mem_cons.mpr ⟨lw_p43, List.forall_mem_cons.mpr ⟨lw_p44, fun _ h => absurd h List.not_mem_nil⟩⟩⟩⟩⟩⟩⟩⟩⟩⟩⟩⟩⟩
def lw_privs : List (MethodName × Nat) := lw_privs_1 ++ (lw_privs_2 ++ (lw_privs_3))
def lw_tbl : List Cond := k2_sels lw_privs ++ tables_1
theorem lw_privs_ok : ∀ q ∈ lw_privs, lw_okq q := by
  show ∀ q ∈ lw_privs_1 ++ (lw_privs_2 ++ (lw_privs_3)), lw_okq q
  exact List.forall_mem_append.mpr ⟨lw_r1, List.forall_mem_append.mpr ⟨lw_r2, lw_r3⟩⟩
def RX0 : String := "PartedSums$Knowledge"
def TX0 : u_T := fun k => match k with
  | 0 => ("PartedSums$Knowledge", "versions", "[I", true)
  | 1 => ("PartedSums$Knowledge", "added", "[I", true)
  | 2 => ("PartedSums$Knowledge", "taken", "[I", true)
  | _ => ("PartedSums$Knowledge", "graves", "I", false)
def tyX0 : Nat → FieldType := fun k => match k with
  | 0 => .array .int
  | 1 => .array .int
  | 2 => .array .int
  | _ => .int
abbrev wsX00 : List Cond := u_ws RX0 TX0 4
theorem nmX0 : ∀ a, a < 4 → ∀ b, b < 4 → a ≠ b → (TX0 a).2.1 ≠ (TX0 b).2.1 := by decide +kernel
theorem tyX0_ok : ∀ k, k < 4 → parseFieldDescriptor (TX0 k).2.2.1 = some (tyX0 k) := by decide +kernel
abbrev cX0_init : ByteArray := prog_2_method_1_code
def yX0_init : MethodName := ⟨RX0, "<init>", "()V"⟩
abbrev cX0_copyFrom : ByteArray := prog_2_method_2_code
def yX0_copyFrom : MethodName := ⟨RX0, "copyFrom", "(LPartedSums$Knowledge;)V"⟩
abbrev cX0_forgetAll : ByteArray := prog_2_method_3_code
def yX0_forgetAll : MethodName := ⟨RX0, "forgetAll", "()V"⟩
abbrev cX0_forgetPart : ByteArray := prog_2_method_4_code
def yX0_forgetPart : MethodName := ⟨RX0, "forgetPart", "(I)V"⟩
abbrev cX0_knows : ByteArray := prog_2_method_5_code
def yX0_knows : MethodName := ⟨RX0, "knows", "(I)Z"⟩
abbrev cX0_hasGrave : ByteArray := prog_2_method_6_code
def yX0_hasGrave : MethodName := ⟨RX0, "hasGrave", "(I)Z"⟩
abbrev cX0_raise : ByteArray := prog_2_method_7_code
def yX0_raise : MethodName := ⟨RX0, "raise", "(III)V"⟩
abbrev cX0_bequeath : ByteArray := prog_2_method_8_code
def yX0_bequeath : MethodName := ⟨RX0, "bequeath", "(II)V"⟩
abbrev cX0_takeIn : ByteArray := prog_2_method_9_code
def yX0_takeIn : MethodName := ⟨RX0, "takeIn", "(LPartedSums$Knowledge;)I"⟩
abbrev cX0_knowsTheSameAs : ByteArray := prog_2_method_10_code
def yX0_knowsTheSameAs : MethodName := ⟨RX0, "knowsTheSameAs", "(LPartedSums$Knowledge;)Z"⟩
abbrev cX0_allAdded : ByteArray := prog_2_method_11_code
def yX0_allAdded : MethodName := ⟨RX0, "allAdded", "()I"⟩
abbrev cX0_allTaken : ByteArray := prog_2_method_12_code
def yX0_allTaken : MethodName := ⟨RX0, "allTaken", "()I"⟩
abbrev cX0_sum : ByteArray := prog_2_method_13_code
def yX0_sum : MethodName := ⟨RX0, "sum", "()I"⟩
abbrev cX0_knownWriters : ByteArray := prog_2_method_14_code
def yX0_knownWriters : MethodName := ⟨RX0, "knownWriters", "()I"⟩
def RX1 : String := "PartedSums$Letter"
def TX1 : u_T := fun k => match k with
  | 0 => ("PartedSums$Letter", "from", "I", false)
  | 1 => ("PartedSums$Letter", "to", "I", false)
  | 2 => ("PartedSums$Letter", "arrival", "I", false)
  | 3 => ("PartedSums$Letter", "lost", "Z", false)
  | _ => ("PartedSums$Letter", "told", "LPartedSums$Knowledge;", true)
def tyX1 : Nat → FieldType := fun k => match k with
  | 0 => .int
  | 1 => .int
  | 2 => .int
  | 3 => .boolean
  | _ => .object "PartedSums$Knowledge"
abbrev wsX10 : List Cond := u_ws RX1 TX1 5
theorem nmX1 : ∀ a, a < 5 → ∀ b, b < 5 → a ≠ b → (TX1 a).2.1 ≠ (TX1 b).2.1 := by decide +kernel
theorem tyX1_ok : ∀ k, k < 5 → parseFieldDescriptor (TX1 k).2.2.1 = some (tyX1 k) := by decide +kernel
abbrev cX1_init : ByteArray := prog_3_method_1_code
def yX1_init : MethodName := ⟨RX1, "<init>", "()V"⟩
abbrev cX1_copyFrom : ByteArray := prog_3_method_2_code
def yX1_copyFrom : MethodName := ⟨RX1, "copyFrom", "(LPartedSums$Letter;)V"⟩
def RX2 : String := "PartedSums$Script"
def TX2 : u_T := fun k => match k with
  | 0 => ("PartedSums$Script", "characters", "[I", true)
  | 1 => ("PartedSums$Script", "length", "I", false)
  | 2 => ("PartedSums$Script", "orders", "I", false)
  | 3 => ("PartedSums$Script", "faultAt", "I", false)
  | 4 => ("PartedSums$Script", "faultReason", "I", false)
  | 5 => ("PartedSums$Script", "faultCause", "I", false)
  | 6 => ("PartedSums$Script", "kind", "I", false)
  | 7 => ("PartedSums$Script", "numbers", "[I", true)
  | _ => ("PartedSums$Script", "at", "I", false)
def tyX2 : Nat → FieldType := fun k => match k with
  | 0 => .array .int
  | 1 => .int
  | 2 => .int
  | 3 => .int
  | 4 => .int
  | 5 => .int
  | 6 => .int
  | 7 => .array .int
  | _ => .int
abbrev wsX20 : List Cond := u_ws RX2 TX2 9
theorem nmX2 : ∀ a, a < 9 → ∀ b, b < 9 → a ≠ b → (TX2 a).2.1 ≠ (TX2 b).2.1 := by decide +kernel
theorem tyX2_ok : ∀ k, k < 9 → parseFieldDescriptor (TX2 k).2.2.1 = some (tyX2 k) := by decide +kernel
abbrev cX2_init : ByteArray := prog_4_method_1_code
def yX2_init : MethodName := ⟨RX2, "<init>", "()V"⟩
abbrev cX2_append : ByteArray := prog_4_method_2_code
def yX2_append : MethodName := ⟨RX2, "append", "(I)I"⟩
abbrev cX2_runIn : ByteArray := prog_4_method_3_code
def yX2_runIn : MethodName := ⟨RX2, "runIn", "(LPartedSums$State;)V"⟩
abbrev cX2_noteFault : ByteArray := prog_4_method_4_code
def yX2_noteFault : MethodName := ⟨RX2, "noteFault", "(III)V"⟩
abbrev cX2_readOrder : ByteArray := prog_4_method_5_code
def yX2_readOrder : MethodName := ⟨RX2, "readOrder", "(I)Z"⟩
abbrev cX2_numbersOf : ByteArray := prog_4_method_6_code
def yX2_numbersOf : MethodName := ⟨RX2, "numbersOf", "(I)I"⟩
abbrev cX2_readNumber : ByteArray := prog_4_method_7_code
def yX2_readNumber : MethodName := ⟨RX2, "readNumber", "(I)Z"⟩
abbrev cX2_readSign : ByteArray := prog_4_method_8_code
def yX2_readSign : MethodName := ⟨RX2, "readSign", "(C)Z"⟩
abbrev cX2_doOrder : ByteArray := prog_4_method_9_code
def yX2_doOrder : MethodName := ⟨RX2, "doOrder", "(LPartedSums$State;)I"⟩
def RX3 : String := "PartedSums$State"
def TX3 : u_T := fun k => match k with
  | 0 => ("PartedSums$State", "views", "[LPartedSums$Knowledge;", true)
  | 1 => ("PartedSums$State", "viewSet", "I", false)
  | 2 => ("PartedSums$State", "homes", "[I", true)
  | 3 => ("PartedSums$State", "heirs", "[I", true)
  | 4 => ("PartedSums$State", "writers", "I", false)
  | 5 => ("PartedSums$State", "letters", "[LPartedSums$Letter;", true)
  | 6 => ("PartedSums$State", "letterCount", "I", false)
  | 7 => ("PartedSums$State", "time", "I", false)
  | 8 => ("PartedSums$State", "lettersTakenIn", "I", false)
  | 9 => ("PartedSums$State", "lettersLost", "I", false)
  | _ => ("PartedSums$State", "partsMerged", "I", false)
def tyX3 : Nat → FieldType := fun k => match k with
  | 0 => .array (.object "PartedSums$Knowledge")
  | 1 => .int
  | 2 => .array .int
  | 3 => .array .int
  | 4 => .int
  | 5 => .array (.object "PartedSums$Letter")
  | 6 => .int
  | 7 => .int
  | 8 => .int
  | 9 => .int
  | _ => .int
abbrev wsX30 : List Cond := u_ws RX3 TX3 11
theorem nmX3 : ∀ a, a < 11 → ∀ b, b < 11 → a ≠ b → (TX3 a).2.1 ≠ (TX3 b).2.1 := by decide +kernel
theorem tyX3_ok : ∀ k, k < 11 → parseFieldDescriptor (TX3 k).2.2.1 = some (tyX3 k) := by decide +kernel
abbrev cX3_init : ByteArray := prog_5_method_1_code
def yX3_init : MethodName := ⟨RX3, "<init>", "()V"⟩
abbrev cX3_copyFrom : ByteArray := prog_5_method_2_code
def yX3_copyFrom : MethodName := ⟨RX3, "copyFrom", "(LPartedSums$State;)V"⟩
abbrev cX3_hasView : ByteArray := prog_5_method_3_code
def yX3_hasView : MethodName := ⟨RX3, "hasView", "(I)Z"⟩
abbrev cX3_hasWriter : ByteArray := prog_5_method_4_code
def yX3_hasWriter : MethodName := ⟨RX3, "hasWriter", "(I)Z"⟩
abbrev cX3_hasRetired : ByteArray := prog_5_method_5_code
def yX3_hasRetired : MethodName := ⟨RX3, "hasRetired", "(I)Z"⟩
abbrev cX3_countViews : ByteArray := prog_5_method_6_code
def yX3_countViews : MethodName := ⟨RX3, "countViews", "()I"⟩
abbrev cX3_countActiveWriters : ByteArray := prog_5_method_7_code
def yX3_countActiveWriters : MethodName := ⟨RX3, "countActiveWriters", "()I"⟩
abbrev cX3_homeOf : ByteArray := prog_5_method_8_code
def yX3_homeOf : MethodName := ⟨RX3, "homeOf", "(I)LPartedSums$Knowledge;"⟩
abbrev cX3_homeVersion : ByteArray := prog_5_method_9_code
def yX3_homeVersion : MethodName := ⟨RX3, "homeVersion", "(I)I"⟩
abbrev cX3_writersAtHome : ByteArray := prog_5_method_10_code
def yX3_writersAtHome : MethodName := ⟨RX3, "writersAtHome", "(I)I"⟩
abbrev cX3_viewsThatKnowTheSame : ByteArray := prog_5_method_11_code
def yX3_viewsThatKnowTheSame : MethodName := ⟨RX3, "viewsThatKnowTheSame", "(I)I"⟩
abbrev cX3_viewsUpToDate : ByteArray := prog_5_method_12_code
def yX3_viewsUpToDate : MethodName := ⟨RX3, "viewsUpToDate", "(I)I"⟩
abbrev cX3_viewsWithGrave : ByteArray := prog_5_method_13_code
def yX3_viewsWithGrave : MethodName := ⟨RX3, "viewsWithGrave", "(I)I"⟩
abbrev cX3_leastKnown : ByteArray := prog_5_method_14_code
def yX3_leastKnown : MethodName := ⟨RX3, "leastKnown", "(I)I"⟩
abbrev cX3_bringWriter : ByteArray := prog_5_method_15_code
def yX3_bringWriter : MethodName := ⟨RX3, "bringWriter", "(I)I"⟩
abbrev cX3_addAmount : ByteArray := prog_5_method_16_code
def yX3_addAmount : MethodName := ⟨RX3, "addAmount", "(II)I"⟩
abbrev cX3_takeAmount : ByteArray := prog_5_method_17_code
def yX3_takeAmount : MethodName := ⟨RX3, "takeAmount", "(II)I"⟩
abbrev cX3_retireWriter : ByteArray := prog_5_method_18_code
def yX3_retireWriter : MethodName := ⟨RX3, "retireWriter", "(II)I"⟩
abbrev cX3_moveWriter : ByteArray := prog_5_method_19_code
def yX3_moveWriter : MethodName := ⟨RX3, "moveWriter", "(II)I"⟩
abbrev cX3_copyView : ByteArray := prog_5_method_20_code
def yX3_copyView : MethodName := ⟨RX3, "copyView", "(I)I"⟩
abbrev cX3_dropView : ByteArray := prog_5_method_21_code
def yX3_dropView : MethodName := ⟨RX3, "dropView", "(I)I"⟩
abbrev cX3_mergeViews : ByteArray := prog_5_method_22_code
def yX3_mergeViews : MethodName := ⟨RX3, "mergeViews", "(II)I"⟩
abbrev cX3_postLetter : ByteArray := prog_5_method_23_code
def yX3_postLetter : MethodName := ⟨RX3, "postLetter", "(III)I"⟩
abbrev cX3_insertLetter : ByteArray := prog_5_method_24_code
def yX3_insertLetter : MethodName := ⟨RX3, "insertLetter", "(I)LPartedSums$Letter;"⟩
abbrev cX3_passTicks : ByteArray := prog_5_method_25_code
def yX3_passTicks : MethodName := ⟨RX3, "passTicks", "(I)I"⟩
abbrev cX3_receive : ByteArray := prog_5_method_26_code
def yX3_receive : MethodName := ⟨RX3, "receive", "(LPartedSums$Letter;)V"⟩
abbrev cX3_removeLetters : ByteArray := prog_5_method_27_code
def yX3_removeLetters : MethodName := ⟨RX3, "removeLetters", "(I)V"⟩
abbrev cX3_mergeUntilAllAgree : ByteArray := prog_5_method_28_code
def yX3_mergeUntilAllAgree : MethodName := ⟨RX3, "mergeUntilAllAgree", "()I"⟩
abbrev cX3_viewBehind : ByteArray := prog_5_method_29_code
def yX3_viewBehind : MethodName := ⟨RX3, "viewBehind", "(I)I"⟩
def RX4 : String := "PartedSums"
def TX4 : u_T := fun k => match k with
  | 0 => ("PartedSums", "now", "LPartedSums$State;", false)
  | 1 => ("PartedSums", "trial", "LPartedSums$State;", false)
  | 2 => ("PartedSums", "past", "[LPartedSums$State;", true)
  | 3 => ("PartedSums", "pastStates", "I", false)
  | 4 => ("PartedSums", "scratch", "LPartedSums$Knowledge;", true)
  | _ => ("PartedSums", "script", "LPartedSums$Script;", true)
def tyX4 : Nat → FieldType := fun k => match k with
  | 0 => .object "PartedSums$State"
  | 1 => .object "PartedSums$State"
  | 2 => .array (.object "PartedSums$State")
  | 3 => .int
  | 4 => .object "PartedSums$Knowledge"
  | _ => .object "PartedSums$Script"
abbrev wsX40 : List Cond := u_ws RX4 TX4 6
theorem nmX4 : ∀ a, a < 6 → ∀ b, b < 6 → a ≠ b → (TX4 a).2.1 ≠ (TX4 b).2.1 := by decide +kernel
theorem tyX4_ok : ∀ k, k < 6 → parseFieldDescriptor (TX4 k).2.2.1 = some (tyX4 k) := by decide +kernel
abbrev cX4_init : ByteArray := prog_1_method_1_code
def yX4_init : MethodName := ⟨RX4, "<init>", "()V"⟩
abbrev cX4_writer : ByteArray := prog_1_method_2_code
def yX4_writer : MethodName := ⟨RX4, "writer", "(I)I"⟩
abbrev cX4_add : ByteArray := prog_1_method_3_code
def yX4_add : MethodName := ⟨RX4, "add", "(II)I"⟩
abbrev cX4_take : ByteArray := prog_1_method_4_code
def yX4_take : MethodName := ⟨RX4, "take", "(II)I"⟩
abbrev cX4_retire : ByteArray := prog_1_method_5_code
def yX4_retire : MethodName := ⟨RX4, "retire", "(II)I"⟩
abbrev cX4_move : ByteArray := prog_1_method_6_code
def yX4_move : MethodName := ⟨RX4, "move", "(II)I"⟩
abbrev cX4_view : ByteArray := prog_1_method_7_code
def yX4_view : MethodName := ⟨RX4, "view", "(I)I"⟩
abbrev cX4_drop : ByteArray := prog_1_method_8_code
def yX4_drop : MethodName := ⟨RX4, "drop", "(I)I"⟩
abbrev cX4_merge : ByteArray := prog_1_method_9_code
def yX4_merge : MethodName := ⟨RX4, "merge", "(II)I"⟩
abbrev cX4_post : ByteArray := prog_1_method_10_code
def yX4_post : MethodName := ⟨RX4, "post", "(III)I"⟩
abbrev cX4_tick : ByteArray := prog_1_method_11_code
def yX4_tick : MethodName := ⟨RX4, "tick", "(I)I"⟩
abbrev cX4_viewOf : ByteArray := prog_1_method_12_code
def yX4_viewOf : MethodName := ⟨RX4, "viewOf", "(II)I"⟩
abbrev cX4_partOf : ByteArray := prog_1_method_13_code
def yX4_partOf : MethodName := ⟨RX4, "partOf", "(III)I"⟩
abbrev cX4_writerOf : ByteArray := prog_1_method_14_code
def yX4_writerOf : MethodName := ⟨RX4, "writerOf", "(II)I"⟩
abbrev cX4_letterOf : ByteArray := prog_1_method_15_code
def yX4_letterOf : MethodName := ⟨RX4, "letterOf", "(II)I"⟩
abbrev cX4_lacks : ByteArray := prog_1_method_16_code
def yX4_lacks : MethodName := ⟨RX4, "lacks", "(III)I"⟩
abbrev cX4_whole : ByteArray := prog_1_method_17_code
def yX4_whole : MethodName := ⟨RX4, "whole", "()I"⟩
abbrev cX4_seen : ByteArray := prog_1_method_18_code
def yX4_seen : MethodName := ⟨RX4, "seen", "()I"⟩
abbrev cX4_rounds : ByteArray := prog_1_method_19_code
def yX4_rounds : MethodName := ⟨RX4, "rounds", "()I"⟩
abbrev cX4_would : ByteArray := prog_1_method_20_code
def yX4_would : MethodName := ⟨RX4, "would", "(II)I"⟩
abbrev cX4_latest : ByteArray := prog_1_method_21_code
def yX4_latest : MethodName := ⟨RX4, "latest", "(I)I"⟩
abbrev cX4_count : ByteArray := prog_1_method_22_code
def yX4_count : MethodName := ⟨RX4, "count", "(I)I"⟩
abbrev cX4_undo : ByteArray := prog_1_method_23_code
def yX4_undo : MethodName := ⟨RX4, "undo", "()I"⟩
abbrev cX4_type : ByteArray := prog_1_method_24_code
def yX4_type : MethodName := ⟨RX4, "type", "(I)I"⟩
abbrev cX4_clearText : ByteArray := prog_1_method_25_code
def yX4_clearText : MethodName := ⟨RX4, "clearText", "()I"⟩
abbrev cX4_fault : ByteArray := prog_1_method_26_code
def yX4_fault : MethodName := ⟨RX4, "fault", "(I)I"⟩
abbrev cX4_play : ByteArray := prog_1_method_27_code
def yX4_play : MethodName := ⟨RX4, "play", "()I"⟩
abbrev cX4_freshTrial : ByteArray := prog_1_method_28_code
def yX4_freshTrial : MethodName := ⟨RX4, "freshTrial", "()LPartedSums$State;"⟩
abbrev cX4_settle : ByteArray := prog_1_method_29_code
def yX4_settle : MethodName := ⟨RX4, "settle", "(I)I"⟩
abbrev cX4_tryMerging : ByteArray := prog_1_method_30_code
def yX4_tryMerging : MethodName := ⟨RX4, "tryMerging", "(II)I"⟩
abbrev cX4_partsLackedOfAll : ByteArray := prog_1_method_31_code
def yX4_partsLackedOfAll : MethodName := ⟨RX4, "partsLackedOfAll", "(I)I"⟩
abbrev cX4_isWithin : ByteArray := prog_1_method_32_code
def yX4_isWithin : MethodName := ⟨RX4, "isWithin", "(III)Z"⟩
abbrev cX4_isError : ByteArray := prog_1_method_33_code
def yX4_isError : MethodName := ⟨RX4, "isError", "(I)Z"⟩
def RX5 : String := "PartedSumsModel"
def TX5 : u_T := fun k => match k with
  | 0 => ("PartedSumsModel", "s", "[I", true)
  | 1 => ("PartedSumsModel", "past", "[I", true)
  | 2 => ("PartedSumsModel", "held", "[I", true)
  | 3 => ("PartedSumsModel", "tried", "[I", true)
  | 4 => ("PartedSumsModel", "pasts", "I", false)
  | 5 => ("PartedSumsModel", "runs", "Z", false)
  | 6 => ("PartedSumsModel", "text", "[I", true)
  | 7 => ("PartedSumsModel", "typed", "I", false)
  | 8 => ("PartedSumsModel", "spot", "I", false)
  | 9 => ("PartedSumsModel", "from", "I", false)
  | 10 => ("PartedSumsModel", "reason", "I", false)
  | 11 => ("PartedSumsModel", "cause", "I", false)
  | 12 => ("PartedSumsModel", "orders", "I", false)
  | 13 => ("PartedSumsModel", "order", "I", false)
  | _ => ("PartedSumsModel", "told", "[I", true)
def tyX5 : Nat → FieldType := fun k => match k with
  | 0 => .array .int
  | 1 => .array .int
  | 2 => .array .int
  | 3 => .array .int
  | 4 => .int
  | 5 => .boolean
  | 6 => .array .int
  | 7 => .int
  | 8 => .int
  | 9 => .int
  | 10 => .int
  | 11 => .int
  | 12 => .int
  | 13 => .int
  | _ => .array .int
abbrev wsX50 : List Cond := u_ws RX5 TX5 15
theorem nmX5 : ∀ a, a < 15 → ∀ b, b < 15 → a ≠ b → (TX5 a).2.1 ≠ (TX5 b).2.1 := by decide +kernel
theorem tyX5_ok : ∀ k, k < 15 → parseFieldDescriptor (TX5 k).2.2.1 = some (tyX5 k) := by decide +kernel
abbrev cX5_init : ByteArray := prog_7_method_1_code
def yX5_init : MethodName := ⟨RX5, "<init>", "()V"⟩
abbrev cX5_in : ByteArray := prog_7_method_3_code
def yX5_in : MethodName := ⟨RX5, "in", "(III)Z"⟩
abbrev cX5_copies : ByteArray := prog_7_method_4_code
def yX5_copies : MethodName := ⟨RX5, "copies", "([I[I)V"⟩
abbrev cX5_changes : ByteArray := prog_7_method_5_code
def yX5_changes : MethodName := ⟨RX5, "changes", "()V"⟩
abbrev cX5_knows : ByteArray := prog_7_method_6_code
def yX5_knows : MethodName := ⟨RX5, "knows", "(I)I"⟩
abbrev cX5_knew : ByteArray := prog_7_method_7_code
def yX5_knew : MethodName := ⟨RX5, "knew", "(I)I"⟩
abbrev cX5_part : ByteArray := prog_7_method_8_code
def yX5_part : MethodName := ⟨RX5, "part", "(II)I"⟩
abbrev cX5_isView : ByteArray := prog_7_method_9_code
def yX5_isView : MethodName := ⟨RX5, "isView", "(I)Z"⟩
abbrev cX5_isWriter : ByteArray := prog_7_method_10_code
def yX5_isWriter : MethodName := ⟨RX5, "isWriter", "(I)Z"⟩
abbrev cX5_ofWriter : ByteArray := prog_7_method_11_code
def yX5_ofWriter : MethodName := ⟨RX5, "ofWriter", "(II)I"⟩
abbrev cX5_isRetired : ByteArray := prog_7_method_12_code
def yX5_isRetired : MethodName := ⟨RX5, "isRetired", "(I)Z"⟩
abbrev cX5_sum : ByteArray := prog_7_method_13_code
def yX5_sum : MethodName := ⟨RX5, "sum", "(II)I"⟩
abbrev cX5_ones : ByteArray := prog_7_method_14_code
def yX5_ones : MethodName := ⟨RX5, "ones", "(I)I"⟩
abbrev cX5_views : ByteArray := prog_7_method_15_code
def yX5_views : MethodName := ⟨RX5, "views", "()I"⟩
abbrev cX5_active : ByteArray := prog_7_method_16_code
def yX5_active : MethodName := ⟨RX5, "active", "()I"⟩
abbrev cX5_takesIn : ByteArray := prog_7_method_17_code
def yX5_takesIn : MethodName := ⟨RX5, "takesIn", "(II)I"⟩
abbrev cX5_forgets : ByteArray := prog_7_method_18_code
def yX5_forgets : MethodName := ⟨RX5, "forgets", "(I)V"⟩
abbrev cX5_isSame : ByteArray := prog_7_method_19_code
def yX5_isSame : MethodName := ⟨RX5, "isSame", "(II)Z"⟩
abbrev cX5_writer : ByteArray := prog_7_method_20_code
def yX5_writer : MethodName := ⟨RX5, "writer", "(I)I"⟩
abbrev cX5_ownPart : ByteArray := prog_7_method_21_code
def yX5_ownPart : MethodName := ⟨RX5, "ownPart", "(I)I"⟩
abbrev cX5_writes : ByteArray := prog_7_method_22_code
def yX5_writes : MethodName := ⟨RX5, "writes", "(III)I"⟩
abbrev cX5_add : ByteArray := prog_7_method_23_code
def yX5_add : MethodName := ⟨RX5, "add", "(II)I"⟩
abbrev cX5_take : ByteArray := prog_7_method_24_code
def yX5_take : MethodName := ⟨RX5, "take", "(II)I"⟩
abbrev cX5_retire : ByteArray := prog_7_method_25_code
def yX5_retire : MethodName := ⟨RX5, "retire", "(II)I"⟩
abbrev cX5_move : ByteArray := prog_7_method_26_code
def yX5_move : MethodName := ⟨RX5, "move", "(II)I"⟩
abbrev cX5_lays : ByteArray := prog_7_method_27_code
def yX5_lays : MethodName := ⟨RX5, "lays", "(II)V"⟩
abbrev cX5_view : ByteArray := prog_7_method_28_code
def yX5_view : MethodName := ⟨RX5, "view", "(I)I"⟩
abbrev cX5_homers : ByteArray := prog_7_method_29_code
def yX5_homers : MethodName := ⟨RX5, "homers", "(I)I"⟩
abbrev cX5_drop : ByteArray := prog_7_method_30_code
def yX5_drop : MethodName := ⟨RX5, "drop", "(I)I"⟩
abbrev cX5_merge : ByteArray := prog_7_method_31_code
def yX5_merge : MethodName := ⟨RX5, "merge", "(II)I"⟩
abbrev cX5_ofLetter : ByteArray := prog_7_method_32_code
def yX5_ofLetter : MethodName := ⟨RX5, "ofLetter", "(II)I"⟩
abbrev cX5_post : ByteArray := prog_7_method_33_code
def yX5_post : MethodName := ⟨RX5, "post", "(III)I"⟩
abbrev cX5_isLost : ByteArray := prog_7_method_34_code
def yX5_isLost : MethodName := ⟨RX5, "isLost", "(I)Z"⟩
abbrev cX5_comes : ByteArray := prog_7_method_35_code
def yX5_comes : MethodName := ⟨RX5, "comes", "(I)Z"⟩
abbrev cX5_goes : ByteArray := prog_7_method_36_code
def yX5_goes : MethodName := ⟨RX5, "goes", "()I"⟩
abbrev cX5_tick : ByteArray := prog_7_method_37_code
def yX5_tick : MethodName := ⟨RX5, "tick", "(I)I"⟩
abbrev cX5_known : ByteArray := prog_7_method_38_code
def yX5_known : MethodName := ⟨RX5, "known", "(I)I"⟩
abbrev cX5_alike : ByteArray := prog_7_method_39_code
def yX5_alike : MethodName := ⟨RX5, "alike", "(I)I"⟩
abbrev cX5_viewOf : ByteArray := prog_7_method_40_code
def yX5_viewOf : MethodName := ⟨RX5, "viewOf", "(II)I"⟩
abbrev cX5_partOf : ByteArray := prog_7_method_41_code
def yX5_partOf : MethodName := ⟨RX5, "partOf", "(III)I"⟩
abbrev cX5_viewsWith : ByteArray := prog_7_method_42_code
def yX5_viewsWith : MethodName := ⟨RX5, "viewsWith", "(IZ)I"⟩
abbrev cX5_writerOf : ByteArray := prog_7_method_43_code
def yX5_writerOf : MethodName := ⟨RX5, "writerOf", "(II)I"⟩
abbrev cX5_letterAt : ByteArray := prog_7_method_44_code
def yX5_letterAt : MethodName := ⟨RX5, "letterAt", "(I)I"⟩
abbrev cX5_letterOf : ByteArray := prog_7_method_45_code
def yX5_letterOf : MethodName := ⟨RX5, "letterOf", "(II)I"⟩
abbrev cX5_lacking : ByteArray := prog_7_method_46_code
def yX5_lacking : MethodName := ⟨RX5, "lacking", "(III)I"⟩
abbrev cX5_lacks : ByteArray := prog_7_method_47_code
def yX5_lacks : MethodName := ⟨RX5, "lacks", "(III)I"⟩
abbrev cX5_first : ByteArray := prog_7_method_48_code
def yX5_first : MethodName := ⟨RX5, "first", "()I"⟩
abbrev cX5_whole : ByteArray := prog_7_method_49_code
def yX5_whole : MethodName := ⟨RX5, "whole", "()I"⟩
abbrev cX5_seen : ByteArray := prog_7_method_50_code
def yX5_seen : MethodName := ⟨RX5, "seen", "()I"⟩
abbrev cX5_following : ByteArray := prog_7_method_51_code
def yX5_following : MethodName := ⟨RX5, "following", "(I)I"⟩
abbrev cX5_rounds : ByteArray := prog_7_method_52_code
def yX5_rounds : MethodName := ⟨RX5, "rounds", "()I"⟩
abbrev cX5_would : ByteArray := prog_7_method_53_code
def yX5_would : MethodName := ⟨RX5, "would", "(II)I"⟩
abbrev cX5_latest : ByteArray := prog_7_method_54_code
def yX5_latest : MethodName := ⟨RX5, "latest", "(I)I"⟩
abbrev cX5_count : ByteArray := prog_7_method_55_code
def yX5_count : MethodName := ⟨RX5, "count", "(I)I"⟩
abbrev cX5_undo : ByteArray := prog_7_method_56_code
def yX5_undo : MethodName := ⟨RX5, "undo", "()I"⟩
abbrev cX5_type : ByteArray := prog_7_method_57_code
def yX5_type : MethodName := ⟨RX5, "type", "(I)I"⟩
abbrev cX5_clearText : ByteArray := prog_7_method_58_code
def yX5_clearText : MethodName := ⟨RX5, "clearText", "()I"⟩
abbrev cX5_isAt : ByteArray := prog_7_method_59_code
def yX5_isAt : MethodName := ⟨RX5, "isAt", "(II)Z"⟩
abbrev cX5_sign : ByteArray := prog_7_method_60_code
def yX5_sign : MethodName := ⟨RX5, "sign", "(I)Z"⟩
abbrev cX5_number : ByteArray := prog_7_method_61_code
def yX5_number : MethodName := ⟨RX5, "number", "(I)Z"⟩
abbrev cX5_numbersOf : ByteArray := prog_7_method_62_code
def yX5_numbersOf : MethodName := ⟨RX5, "numbersOf", "(I)I"⟩
abbrev cX5_reads : ByteArray := prog_7_method_63_code
def yX5_reads : MethodName := ⟨RX5, "reads", "()Z"⟩
abbrev cX5_calls : ByteArray := prog_7_method_64_code
def yX5_calls : MethodName := ⟨RX5, "calls", "()I"⟩
abbrev cX5_plays : ByteArray := prog_7_method_65_code
def yX5_plays : MethodName := ⟨RX5, "plays", "()Z"⟩
abbrev cX5_fault : ByteArray := prog_7_method_66_code
def yX5_fault : MethodName := ⟨RX5, "fault", "(I)I"⟩
abbrev cX5_play : ByteArray := prog_7_method_67_code
def yX5_play : MethodName := ⟨RX5, "play", "()I"⟩
def RJ6 : String := "java/lang/Integer"
def TJ6 : u_T := fun k => match k with
  | _ => ("", "", "", false)
def tyJ6 : Nat → FieldType := fun k => match k with
  | _ => .int
abbrev wsJ60 : List Cond := u_ws RJ6 TJ6 0
theorem nmJ6 : ∀ a, a < 0 → ∀ b, b < 0 → a ≠ b → (TJ6 a).2.1 ≠ (TJ6 b).2.1 := by decide +kernel
theorem tyJ6_ok : ∀ k, k < 0 → parseFieldDescriptor (TJ6 k).2.2.1 = some (tyJ6 k) := by decide +kernel
abbrev cJ6_bitCount_0f7a4 : ByteArray := prog_8_method_49_code
def yJ6_bitCount_0f7a4 : MethodName := ⟨RJ6, "bitCount", "(I)I"⟩
def RJ10 : String := "java/lang/System"
def TJ10 : u_T := fun k => match k with
  | _ => ("", "", "", false)
def tyJ10 : Nat → FieldType := fun k => match k with
  | _ => .int
abbrev wsJ100 : List Cond := u_ws RJ10 TJ10 0
theorem nmJ10 : ∀ a, a < 0 → ∀ b, b < 0 → a ≠ b → (TJ10 a).2.1 ≠ (TJ10 b).2.1 := by decide +kernel
theorem tyJ10_ok : ∀ k, k < 0 → parseFieldDescriptor (TJ10 k).2.2.1 = some (tyJ10 k) := by decide +kernel
def RL : String := "PartedSumsLaw"
abbrev cL_law : ByteArray := code
def yL_law : MethodName := ⟨RL, "law", "([I)Z"⟩
abbrev vwCl : List vw_C := [(RX0, TX0, 4), (RX1, TX1, 5), (RX2, TX2, 9), (RX3, TX3, 11), (RX4, TX4, 6), (RX5, TX5, 15)]
end
section
/-! The program as data: methods by number, their code with what the pool says. Written by wip/gen/gen.py. -/
abbrev Ent : Type := Nat × Instr × Nat × Int
abbrev MIt : Type := MethodName × ByteArray × Nat × Option FieldType × Nat × Bool × String × Nat × Nat × Nat × Bool
def miD : MIt := (yL_law, cL_law, 0, none, 0, false, "", 0, 0, 99, false)
def MI_0 : List MIt := [(yX0_init, cX0_init, 1, (none : Option FieldType), 0, false, RX0, 1, 20, 0, true), (yX0_copyFrom, cX0_copyFrom, 2, (none : Option FieldType), 1, false, RX0, 1, 26, 0, false), (yX0_forgetAll, cX0_forgetAll, 2, (none : Option FieldType), 0, false, RX0, 1, 21, 0, false), (yX0_forgetPart, cX0_forgetPart, 2, (none : Option FieldType), 1, false, RX0, 0, 0, 0, false), (yX0_knows, cX0_knows, 2, (some .boolean), 1, false, RX0, 0, 0, 0, false), (yX0_hasGrave, cX0_hasGrave, 2, (some .boolean), 1, false, RX0, 0, 0, 0, false), (yX0_raise, cX0_raise, 4, (none : Option FieldType), 3, false, RX0, 0, 0, 0, false), (yX0_bequeath, cX0_bequeath, 3, (none : Option FieldType), 2, false, RX0, 1, 23, 0, false), (yX0_takeIn, cX0_takeIn, 5, (some .int), 1, false, RX0, 1, 21, 0, false), (yX0_knowsTheSameAs, cX0_knowsTheSameAs, 3, (some .boolean), 1, false, RX0, 0, 0, 0, false), (yX0_allAdded, cX0_allAdded, 3, (some .int), 0, false, RX0, 0, 0, 0, false), (yX0_allTaken, cX0_allTaken, 3, (some .int), 0, false, RX0, 0, 0, 0, false), (yX0_sum, cX0_sum, 1, (some .int), 0, false, RX0, 1, 22, 0, false), (yX0_knownWriters, cX0_knownWriters, 3, (some .int), 0, false, RX0, 1, 21, 0, false), (yX1_init, cX1_init, 1, (none : Option FieldType), 0, false, RX1, 2, 40, 1, true), (yX1_copyFrom, cX1_copyFrom, 2, (none : Option FieldType), 1, false, RX1, 2, 47, 1, false), (yX2_init, cX2_init, 1, (none : Option FieldType), 0, false, RX2, 1, 20, 2, true), (yX2_append, cX2_append, 2, (some .int), 1, false, RX2, 0, 0, 2, false), (yX2_runIn, cX2_runIn, 4, (none : Option FieldType), 1, false, RX2, 5, 110, 2, false), (yX2_noteFault, cX2_noteFault, 4, (none : Option FieldType), 3, false, RX2, 0, 0, 2, false)]
def MI_1 : List MIt := [(yX2_readOrder, cX2_readOrder, 4, (some .boolean), 1, false, RX2, 2, 45, 2, false), (yX2_numbersOf, cX2_numbersOf, 1, (some .int), 1, true, RX2, 0, 0, 2, false), (yX2_readNumber, cX2_readNumber, 4, (some .boolean), 1, false, RX2, 1, 22, 2, false), (yX2_readSign, cX2_readSign, 2, (some .boolean), 1, false, RX2, 0, 0, 2, false), (yX2_doOrder, cX2_doOrder, 2, (some .int), 1, false, RX2, 4, 89, 2, false), (yX3_init, cX3_init, 2, (none : Option FieldType), 0, false, RX3, 3, 60, 3, true), (yX3_copyFrom, cX3_copyFrom, 3, (none : Option FieldType), 1, false, RX3, 3, 68, 3, false), (yX3_hasView, cX3_hasView, 2, (some .boolean), 1, false, RX3, 1, 22, 3, false), (yX3_hasWriter, cX3_hasWriter, 2, (some .boolean), 1, false, RX3, 1, 22, 3, false), (yX3_hasRetired, cX3_hasRetired, 2, (some .boolean), 1, false, RX3, 0, 0, 3, false), (yX3_countViews, cX3_countViews, 1, (some .int), 0, false, RX3, 1, 20, 3, false), (yX3_countActiveWriters, cX3_countActiveWriters, 3, (some .int), 0, false, RX3, 1, 21, 3, false), (yX3_homeOf, cX3_homeOf, 2, (some (.object "PartedSums$Knowledge")), 1, false, RX3, 0, 0, 3, false), (yX3_homeVersion, cX3_homeVersion, 2, (some .int), 1, false, RX3, 1, 21, 3, false), (yX3_writersAtHome, cX3_writersAtHome, 4, (some .int), 1, false, RX3, 1, 21, 3, false), (yX3_viewsThatKnowTheSame, cX3_viewsThatKnowTheSame, 4, (some .int), 1, false, RX3, 2, 43, 3, false), (yX3_viewsUpToDate, cX3_viewsUpToDate, 4, (some .int), 1, false, RX3, 2, 43, 3, false), (yX3_viewsWithGrave, cX3_viewsWithGrave, 4, (some .int), 1, false, RX3, 2, 43, 3, false), (yX3_leastKnown, cX3_leastKnown, 4, (some .int), 1, false, RX3, 2, 43, 3, false), (yX3_bringWriter, cX3_bringWriter, 3, (some .int), 1, false, RX3, 2, 43, 3, false)]
def MI_2 : List MIt := [(yX3_addAmount, cX3_addAmount, 3, (some .int), 2, false, RX3, 2, 43, 3, false), (yX3_takeAmount, cX3_takeAmount, 3, (some .int), 2, false, RX3, 2, 43, 3, false), (yX3_retireWriter, cX3_retireWriter, 3, (some .int), 2, false, RX3, 2, 45, 3, false), (yX3_moveWriter, cX3_moveWriter, 4, (some .int), 2, false, RX3, 2, 43, 3, false), (yX3_copyView, cX3_copyView, 3, (some .int), 1, false, RX3, 2, 47, 3, false), (yX3_dropView, cX3_dropView, 3, (some .int), 1, false, RX3, 2, 44, 3, false), (yX3_mergeViews, cX3_mergeViews, 4, (some .int), 2, false, RX3, 2, 45, 3, false), (yX3_postLetter, cX3_postLetter, 5, (some .int), 3, false, RX3, 2, 47, 3, false), (yX3_insertLetter, cX3_insertLetter, 4, (some (.object "PartedSums$Letter")), 1, false, RX3, 0, 0, 3, false), (yX3_passTicks, cX3_passTicks, 4, (some .int), 1, false, RX3, 3, 66, 3, false), (yX3_receive, cX3_receive, 2, (none : Option FieldType), 1, false, RX3, 2, 45, 3, false), (yX3_removeLetters, cX3_removeLetters, 4, (none : Option FieldType), 1, false, RX3, 0, 0, 3, false), (yX3_mergeUntilAllAgree, cX3_mergeUntilAllAgree, 4, (some .int), 0, false, RX3, 3, 66, 3, false), (yX3_viewBehind, cX3_viewBehind, 4, (some .int), 1, false, RX3, 2, 43, 3, false), (yX4_init, cX4_init, 2, (none : Option FieldType), 0, false, RX4, 4, 81, 4, true), (yX4_writer, cX4_writer, 2, (some .int), 1, false, RX4, 5, 110, 4, false), (yX4_add, cX4_add, 3, (some .int), 2, false, RX4, 5, 110, 4, false), (yX4_take, cX4_take, 3, (some .int), 2, false, RX4, 5, 110, 4, false), (yX4_retire, cX4_retire, 3, (some .int), 2, false, RX4, 5, 110, 4, false), (yX4_move, cX4_move, 3, (some .int), 2, false, RX4, 5, 110, 4, false)]
def MI_3 : List MIt := [(yX4_view, cX4_view, 2, (some .int), 1, false, RX4, 5, 110, 4, false), (yX4_drop, cX4_drop, 2, (some .int), 1, false, RX4, 5, 110, 4, false), (yX4_merge, cX4_merge, 3, (some .int), 2, false, RX4, 5, 110, 4, false), (yX4_post, cX4_post, 4, (some .int), 3, false, RX4, 5, 110, 4, false), (yX4_tick, cX4_tick, 2, (some .int), 1, false, RX4, 5, 110, 4, false), (yX4_viewOf, cX4_viewOf, 4, (some .int), 2, false, RX4, 3, 66, 4, false), (yX4_partOf, cX4_partOf, 5, (some .int), 3, false, RX4, 2, 43, 4, false), (yX4_writerOf, cX4_writerOf, 4, (some .int), 2, false, RX4, 3, 66, 4, false), (yX4_letterOf, cX4_letterOf, 4, (some .int), 2, false, RX4, 2, 42, 4, false), (yX4_lacks, cX4_lacks, 5, (some .int), 3, false, RX4, 3, 69, 4, false), (yX4_whole, cX4_whole, 2, (some .int), 0, false, RX4, 2, 45, 4, false), (yX4_seen, cX4_seen, 3, (some .int), 0, false, RX4, 3, 66, 4, false), (yX4_rounds, cX4_rounds, 1, (some .int), 0, false, RX4, 5, 110, 4, false), (yX4_would, cX4_would, 5, (some .int), 2, false, RX4, 2, 47, 4, false), (yX4_latest, cX4_latest, 6, (some .int), 1, false, RX4, 4, 92, 4, false), (yX4_count, cX4_count, 2, (some .int), 1, false, RX4, 2, 43, 4, false), (yX4_undo, cX4_undo, 2, (some .int), 0, false, RX4, 0, 0, 4, false), (yX4_type, cX4_type, 2, (some .int), 1, false, RX4, 1, 22, 4, false), (yX4_clearText, cX4_clearText, 2, (some .int), 0, false, RX4, 0, 0, 4, false), (yX4_fault, cX4_fault, 2, (some .int), 1, false, RX4, 6, 133, 4, false)]
def MI_4 : List MIt := [(yX4_play, cX4_play, 1, (some .int), 0, false, RX4, 6, 133, 4, false), (yX4_freshTrial, cX4_freshTrial, 1, (some (.object "PartedSums$State")), 0, false, RX4, 4, 90, 4, false), (yX4_settle, cX4_settle, 4, (some .int), 1, false, RX4, 2, 42, 4, false), (yX4_tryMerging, cX4_tryMerging, 3, (some .int), 2, false, RX4, 2, 47, 4, false), (yX4_partsLackedOfAll, cX4_partsLackedOfAll, 4, (some .int), 1, false, RX4, 3, 69, 4, false), (yX4_isWithin, cX4_isWithin, 3, (some .boolean), 3, true, RX4, 0, 0, 4, false), (yX4_isError, cX4_isError, 1, (some .boolean), 1, true, RX4, 1, 22, 4, false), (yX5_init, cX5_init, 1, (none : Option FieldType), 0, false, RX5, 1, 20, 5, true), (yX5_in, cX5_in, 3, (some .boolean), 3, true, RX5, 0, 0, 5, false), (yX5_copies, cX5_copies, 3, (none : Option FieldType), 2, true, RX5, 0, 0, 5, false), (yX5_changes, cX5_changes, 2, (none : Option FieldType), 0, false, RX5, 0, 0, 5, false), (yX5_knows, cX5_knows, 1, (some .int), 1, true, RX5, 0, 0, 5, false), (yX5_knew, cX5_knew, 1, (some .int), 1, true, RX5, 0, 0, 5, false), (yX5_part, cX5_part, 2, (some .int), 2, true, RX5, 0, 0, 5, false), (yX5_isView, cX5_isView, 2, (some .boolean), 1, false, RX5, 1, 22, 5, false), (yX5_isWriter, cX5_isWriter, 2, (some .boolean), 1, false, RX5, 0, 0, 5, false), (yX5_ofWriter, cX5_ofWriter, 3, (some .int), 2, false, RX5, 0, 0, 5, false), (yX5_isRetired, cX5_isRetired, 2, (some .boolean), 1, false, RX5, 1, 22, 5, false), (yX5_sum, cX5_sum, 6, (some .int), 2, false, RX5, 1, 21, 5, false), (yX5_ones, cX5_ones, 3, (some .int), 1, true, RX5, 0, 0, 5, false)]
def MI_5 : List MIt := [(yX5_views, cX5_views, 3, (some .int), 0, false, RX5, 2, 43, 5, false), (yX5_active, cX5_active, 3, (some .int), 0, false, RX5, 2, 43, 5, false), (yX5_takesIn, cX5_takesIn, 9, (some .int), 2, false, RX5, 1, 21, 5, false), (yX5_forgets, cX5_forgets, 2, (none : Option FieldType), 1, false, RX5, 0, 0, 5, false), (yX5_isSame, cX5_isSame, 5, (some .boolean), 2, false, RX5, 1, 21, 5, false), (yX5_writer, cX5_writer, 3, (some .int), 1, false, RX5, 2, 43, 5, false), (yX5_ownPart, cX5_ownPart, 2, (some .int), 1, false, RX5, 1, 22, 5, false), (yX5_writes, cX5_writes, 5, (some .int), 3, false, RX5, 2, 46, 5, false), (yX5_add, cX5_add, 3, (some .int), 2, false, RX5, 3, 70, 5, false), (yX5_take, cX5_take, 3, (some .int), 2, false, RX5, 3, 70, 5, false), (yX5_retire, cX5_retire, 5, (some .int), 2, false, RX5, 3, 65, 5, false), (yX5_move, cX5_move, 4, (some .int), 2, false, RX5, 2, 43, 5, false), (yX5_lays, cX5_lays, 4, (none : Option FieldType), 2, false, RX5, 0, 0, 5, false), (yX5_view, cX5_view, 3, (some .int), 1, false, RX5, 2, 43, 5, false), (yX5_homers, cX5_homers, 4, (some .int), 1, false, RX5, 2, 43, 5, false), (yX5_drop, cX5_drop, 2, (some .int), 1, false, RX5, 3, 66, 5, false), (yX5_merge, cX5_merge, 4, (some .int), 2, false, RX5, 2, 49, 5, false), (yX5_ofLetter, cX5_ofLetter, 3, (some .int), 2, false, RX5, 0, 0, 5, false), (yX5_post, cX5_post, 6, (some .int), 3, false, RX5, 2, 43, 5, false), (yX5_isLost, cX5_isLost, 2, (some .boolean), 1, false, RX5, 1, 22, 5, false)]
def MI_6 : List MIt := [(yX5_comes, cX5_comes, 4, (some .boolean), 1, false, RX5, 2, 49, 5, false), (yX5_goes, cX5_goes, 3, (some .int), 0, false, RX5, 3, 72, 5, false), (yX5_tick, cX5_tick, 4, (some .int), 1, false, RX5, 4, 94, 5, false), (yX5_known, cX5_known, 4, (some .int), 1, false, RX5, 1, 21, 5, false), (yX5_alike, cX5_alike, 4, (some .int), 1, false, RX5, 2, 45, 5, false), (yX5_viewOf, cX5_viewOf, 3, (some .int), 2, false, RX5, 3, 68, 5, false), (yX5_partOf, cX5_partOf, 5, (some .int), 3, false, RX5, 2, 43, 5, false), (yX5_viewsWith, cX5_viewsWith, 6, (some .int), 2, false, RX5, 2, 43, 5, false), (yX5_writerOf, cX5_writerOf, 3, (some .int), 2, false, RX5, 3, 68, 5, false), (yX5_letterAt, cX5_letterAt, 6, (some .int), 1, false, RX5, 1, 22, 5, false), (yX5_letterOf, cX5_letterOf, 4, (some .int), 2, false, RX5, 2, 47, 5, false), (yX5_lacking, cX5_lacking, 7, (some .int), 3, false, RX5, 2, 49, 5, false), (yX5_lacks, cX5_lacks, 4, (some .int), 3, false, RX5, 3, 75, 5, false), (yX5_first, cX5_first, 2, (some .int), 0, false, RX5, 2, 43, 5, false), (yX5_whole, cX5_whole, 4, (some .int), 0, false, RX5, 3, 64, 5, false), (yX5_seen, cX5_seen, 5, (some .int), 0, false, RX5, 3, 64, 5, false), (yX5_following, cX5_following, 3, (some .int), 1, false, RX5, 2, 43, 5, false), (yX5_rounds, cX5_rounds, 3, (some .int), 0, false, RX5, 3, 68, 5, false), (yX5_would, cX5_would, 5, (some .int), 2, false, RX5, 4, 94, 5, false), (yX5_latest, cX5_latest, 7, (some .int), 1, false, RX5, 3, 75, 5, false)]
def MI_7 : List MIt := [(yX5_count, cX5_count, 2, (some .int), 1, false, RX5, 3, 65, 5, false), (yX5_undo, cX5_undo, 2, (some .int), 0, false, RX5, 0, 0, 5, false), (yX5_type, cX5_type, 2, (some .int), 1, false, RX5, 1, 22, 5, false), (yX5_clearText, cX5_clearText, 2, (some .int), 0, false, RX5, 0, 0, 5, false), (yX5_isAt, cX5_isAt, 3, (some .boolean), 2, false, RX5, 1, 22, 5, false), (yX5_sign, cX5_sign, 3, (some .boolean), 1, false, RX5, 2, 44, 5, false), (yX5_number, cX5_number, 3, (some .boolean), 1, false, RX5, 2, 44, 5, false), (yX5_numbersOf, cX5_numbersOf, 1, (some .int), 1, true, RX5, 0, 0, 5, false), (yX5_reads, cX5_reads, 4, (some .boolean), 0, false, RX5, 3, 66, 5, false), (yX5_calls, cX5_calls, 1, (some .int), 0, false, RX5, 5, 117, 5, false), (yX5_plays, cX5_plays, 4, (some .boolean), 0, false, RX5, 6, 137, 5, false), (yX5_fault, cX5_fault, 3, (some .int), 1, false, RX5, 7, 160, 5, false), (yX5_play, cX5_play, 2, (some .int), 0, false, RX5, 7, 160, 5, false), (yJ6_bitCount_0f7a4, cJ6_bitCount_0f7a4, 1, (some .int), 1, true, RJ6, 0, 0, 99, false), (yL_law, cL_law, 4, (some .boolean), 1, true, RL, 8, 182, 99, false)]
def MI : List MIt := MI_0 ++ (MI_1 ++ (MI_2 ++ (MI_3 ++ (MI_4 ++ (MI_5 ++ (MI_6 ++ (MI_7)))))))
def mi (y : Nat) : MIt := MI.getD y miD
def mName (y : Nat) : MethodName := (mi y).1
def mCode (y : Nat) : ByteArray := (mi y).2.1
def mMaxL (y : Nat) : Nat := (mi y).2.2.1
def mRet (y : Nat) : Option FieldType := (mi y).2.2.2.1
def mArgs (y : Nat) : Nat := (mi y).2.2.2.2.1
def mStat (y : Nat) : Bool := (mi y).2.2.2.2.2.1
def mOwn (y : Nat) : String := (mi y).2.2.2.2.2.2.1
def mFr (y : Nat) : Nat := (mi y).2.2.2.2.2.2.2.1
def mLo (y : Nat) : Nat := (mi y).2.2.2.2.2.2.2.2.1
def mCi (y : Nat) : Nat := (mi y).2.2.2.2.2.2.2.2.2.1
def mIni (y : Nat) : Bool := (mi y).2.2.2.2.2.2.2.2.2.2
def NM : Nat := 155
def K0 : List Ent := [(0, .aload_n 0, 0, 0), (1, .invokespecial 3, 1001, 0), (4, .aload_n 0, 0, 0), (5, .bipush 8, 0, 0), (7, .newarray .int, 0, 0), (9, .putfield 9, 0, 0), (12, .aload_n 0, 0, 0), (13, .bipush 8, 0, 0), (15, .newarray .int, 0, 0), (17, .putfield 15, 0, 1), (20, .aload_n 0, 0, 0), (21, .bipush 8, 0, 0), (23, .newarray .int, 0, 0), (25, .putfield 18, 0, 2), (28, .aload_n 0, 0, 0), (29, .iconst 0, 0, 0), (30, .putfield 21, 0, 3), (33, .return_, 0, 0)]
def K1 : List Ent := [(0, .aload_n 1, 0, 0), (1, .getfield 9, 0, 0), (4, .iconst 0, 0, 0), (5, .aload_n 0, 0, 0), (6, .getfield 9, 0, 0), (9, .iconst 0, 0, 0), (10, .bipush 8, 0, 0), (12, .invokestatic 25, 1000, 0), (15, .aload_n 1, 0, 0), (16, .getfield 15, 0, 1), (19, .iconst 0, 0, 0), (20, .aload_n 0, 0, 0), (21, .getfield 15, 0, 1), (24, .iconst 0, 0, 0), (25, .bipush 8, 0, 0), (27, .invokestatic 25, 1000, 0), (30, .aload_n 1, 0, 0), (31, .getfield 18, 0, 2), (34, .iconst 0, 0, 0), (35, .aload_n 0, 0, 0), (36, .getfield 18, 0, 2), (39, .iconst 0, 0, 0), (40, .bipush 8, 0, 0), (42, .invokestatic 25, 1000, 0), (45, .aload_n 0, 0, 0), (46, .aload_n 1, 0, 0), (47, .getfield 21, 0, 3), (50, .putfield 21, 0, 3), (53, .return_, 0, 0)]
def K2 : List Ent := [(0, .iconst 0, 0, 0), (1, .istore_n 1, 0, 0), (2, .iload_n 1, 0, 0), (3, .bipush 8, 0, 0), (5, .if_icmp .ge 14, 0, 0), (8, .aload_n 0, 0, 0), (9, .iload_n 1, 0, 0), (10, .invokevirtual 31, 3, 0), (13, .iinc 1 1, 0, 0), (16, .goto (-14), 0, 0), (19, .aload_n 0, 0, 0), (20, .iconst 0, 0, 0), (21, .putfield 21, 0, 3), (24, .return_, 0, 0)]
def K3 : List Ent := [(0, .aload_n 0, 0, 0), (1, .getfield 9, 0, 0), (4, .iload_n 1, 0, 0), (5, .iconst 0, 0, 0), (6, .iastore, 0, 0), (7, .aload_n 0, 0, 0), (8, .getfield 15, 0, 1), (11, .iload_n 1, 0, 0), (12, .iconst 0, 0, 0), (13, .iastore, 0, 0), (14, .aload_n 0, 0, 0), (15, .getfield 18, 0, 2), (18, .iload_n 1, 0, 0), (19, .iconst 0, 0, 0), (20, .iastore, 0, 0), (21, .return_, 0, 0)]
def K4 : List Ent := [(0, .aload_n 0, 0, 0), (1, .getfield 9, 0, 0), (4, .iload_n 1, 0, 0), (5, .iaload, 0, 0), (6, .ifCond .le 7, 0, 0), (9, .iconst 1, 0, 0), (10, .goto 4, 0, 0), (13, .iconst 0, 0, 0), (14, .ireturn, 0, 0)]
def K5 : List Ent := [(0, .aload_n 0, 0, 0), (1, .getfield 21, 0, 3), (4, .iconst 1, 0, 0), (5, .iload_n 1, 0, 0), (6, .ishl, 0, 0), (7, .iand, 0, 0), (8, .ifCond .eq 7, 0, 0), (11, .iconst 1, 0, 0), (12, .goto 4, 0, 0), (15, .iconst 0, 0, 0), (16, .ireturn, 0, 0)]
def K6 : List Ent := [(0, .aload_n 0, 0, 0), (1, .getfield 9, 0, 0), (4, .iload_n 1, 0, 0), (5, .dup2, 0, 0), (6, .iaload, 0, 0), (7, .iconst 1, 0, 0), (8, .iadd, 0, 0), (9, .iastore, 0, 0), (10, .aload_n 0, 0, 0), (11, .getfield 15, 0, 1), (14, .iload_n 1, 0, 0), (15, .dup2, 0, 0), (16, .iaload, 0, 0), (17, .iload_n 2, 0, 0), (18, .iadd, 0, 0), (19, .iastore, 0, 0), (20, .aload_n 0, 0, 0), (21, .getfield 18, 0, 2), (24, .iload_n 1, 0, 0), (25, .dup2, 0, 0), (26, .iaload, 0, 0), (27, .iload_n 3, 0, 0), (28, .iadd, 0, 0), (29, .iastore, 0, 0), (30, .return_, 0, 0)]
def K7 : List Ent := [(0, .aload_n 0, 0, 0), (1, .iload_n 2, 0, 0), (2, .aload_n 0, 0, 0), (3, .getfield 15, 0, 1), (6, .iload_n 1, 0, 0), (7, .iaload, 0, 0), (8, .aload_n 0, 0, 0), (9, .getfield 18, 0, 2), (12, .iload_n 1, 0, 0), (13, .iaload, 0, 0), (14, .invokevirtual 35, 6, 0), (17, .aload_n 0, 0, 0), (18, .iload_n 1, 0, 0), (19, .invokevirtual 31, 3, 0), (22, .aload_n 0, 0, 0), (23, .dup, 0, 0), (24, .getfield 21, 0, 3), (27, .iconst 1, 0, 0), (28, .iload_n 1, 0, 0), (29, .ishl, 0, 0), (30, .ior, 0, 0), (31, .putfield 21, 0, 3), (34, .return_, 0, 0)]
def K8 : List Ent := [(0, .aload_n 0, 0, 0), (1, .dup, 0, 0), (2, .getfield 21, 0, 3), (5, .aload_n 1, 0, 0), (6, .getfield 21, 0, 3), (9, .ior, 0, 0), (10, .putfield 21, 0, 3), (13, .iconst 0, 0, 0), (14, .istore_n 2, 0, 0), (15, .iconst 0, 0, 0), (16, .istore_n 3, 0, 0), (17, .iload_n 3, 0, 0), (18, .bipush 8, 0, 0), (20, .if_icmp .ge 94, 0, 0), (23, .aload_n 0, 0, 0), (24, .getfield 9, 0, 0), (27, .iload_n 3, 0, 0), (28, .iaload, 0, 0), (29, .istore 4, 0, 0), (31, .aload_n 0, 0, 0), (32, .iload_n 3, 0, 0), (33, .invokevirtual 39, 5, 0), (36, .ifCond .eq 11, 0, 0), (39, .aload_n 0, 0, 0), (40, .iload_n 3, 0, 0), (41, .invokevirtual 31, 3, 0), (44, .goto 50, 0, 0), (47, .aload_n 1, 0, 0), (48, .getfield 9, 0, 0), (51, .iload_n 3, 0, 0), (52, .iaload, 0, 0), (53, .iload 4, 0, 0), (55, .if_icmp .le 39, 0, 0), (58, .aload_n 0, 0, 0), (59, .getfield 9, 0, 0), (62, .iload_n 3, 0, 0), (63, .aload_n 1, 0, 0), (64, .getfield 9, 0, 0), (67, .iload_n 3, 0, 0), (68, .iaload, 0, 0), (69, .iastore, 0, 0), (70, .aload_n 0, 0, 0), (71, .getfield 15, 0, 1), (74, .iload_n 3, 0, 0), (75, .aload_n 1, 0, 0), (76, .getfield 15, 0, 1), (79, .iload_n 3, 0, 0), (80, .iaload, 0, 0), (81, .iastore, 0, 0), (82, .aload_n 0, 0, 0), (83, .getfield 18, 0, 2), (86, .iload_n 3, 0, 0), (87, .aload_n 1, 0, 0), (88, .getfield 18, 0, 2), (91, .iload_n 3, 0, 0), (92, .iaload, 0, 0), (93, .iastore, 0, 0), (94, .aload_n 0, 0, 0), (95, .getfield 9, 0, 0), (98, .iload_n 3, 0, 0), (99, .iaload, 0, 0), (100, .iload 4, 0, 0), (102, .if_icmp .eq 6, 0, 0), (105, .iinc 2 1, 0, 0), (108, .iinc 3 1, 0, 0), (111, .goto (-94), 0, 0), (114, .iload_n 2, 0, 0), (115, .ireturn, 0, 0)]
def K9 : List Ent := [(0, .iconst 0, 0, 0), (1, .istore_n 2, 0, 0), (2, .iload_n 2, 0, 0), (3, .bipush 8, 0, 0), (5, .if_icmp .ge 26, 0, 0), (8, .aload_n 0, 0, 0), (9, .getfield 9, 0, 0), (12, .iload_n 2, 0, 0), (13, .iaload, 0, 0), (14, .aload_n 1, 0, 0), (15, .getfield 9, 0, 0), (18, .iload_n 2, 0, 0), (19, .iaload, 0, 0), (20, .if_icmp .eq 5, 0, 0), (23, .iconst 0, 0, 0), (24, .ireturn, 0, 0), (25, .iinc 2 1, 0, 0), (28, .goto (-26), 0, 0), (31, .aload_n 0, 0, 0), (32, .getfield 21, 0, 3), (35, .aload_n 1, 0, 0), (36, .getfield 21, 0, 3), (39, .if_icmp .ne 7, 0, 0), (42, .iconst 1, 0, 0), (43, .goto 4, 0, 0), (46, .iconst 0, 0, 0), (47, .ireturn, 0, 0)]
def K10 : List Ent := [(0, .iconst 0, 0, 0), (1, .istore_n 1, 0, 0), (2, .iconst 0, 0, 0), (3, .istore_n 2, 0, 0), (4, .iload_n 2, 0, 0), (5, .bipush 8, 0, 0), (7, .if_icmp .ge 18, 0, 0), (10, .iload_n 1, 0, 0), (11, .aload_n 0, 0, 0), (12, .getfield 15, 0, 1), (15, .iload_n 2, 0, 0), (16, .iaload, 0, 0), (17, .iadd, 0, 0), (18, .istore_n 1, 0, 0), (19, .iinc 2 1, 0, 0), (22, .goto (-18), 0, 0), (25, .iload_n 1, 0, 0), (26, .ireturn, 0, 0)]
def K11 : List Ent := [(0, .iconst 0, 0, 0), (1, .istore_n 1, 0, 0), (2, .iconst 0, 0, 0), (3, .istore_n 2, 0, 0), (4, .iload_n 2, 0, 0), (5, .bipush 8, 0, 0), (7, .if_icmp .ge 18, 0, 0), (10, .iload_n 1, 0, 0), (11, .aload_n 0, 0, 0), (12, .getfield 18, 0, 2), (15, .iload_n 2, 0, 0), (16, .iaload, 0, 0), (17, .iadd, 0, 0), (18, .istore_n 1, 0, 0), (19, .iinc 2 1, 0, 0), (22, .goto (-18), 0, 0), (25, .iload_n 1, 0, 0), (26, .ireturn, 0, 0)]
def K12 : List Ent := [(0, .aload_n 0, 0, 0), (1, .invokevirtual 43, 10, 0), (4, .aload_n 0, 0, 0), (5, .invokevirtual 47, 11, 0), (8, .isub, 0, 0), (9, .ireturn, 0, 0)]
def K13 : List Ent := [(0, .iconst 0, 0, 0), (1, .istore_n 1, 0, 0), (2, .iconst 0, 0, 0), (3, .istore_n 2, 0, 0), (4, .iload_n 2, 0, 0), (5, .bipush 8, 0, 0), (7, .if_icmp .ge 23, 0, 0), (10, .aload_n 0, 0, 0), (11, .iload_n 2, 0, 0), (12, .invokevirtual 50, 4, 0), (15, .ifCond .eq 9, 0, 0), (18, .iload_n 1, 0, 0), (19, .iconst 1, 0, 0), (20, .iload_n 2, 0, 0), (21, .ishl, 0, 0), (22, .ior, 0, 0), (23, .istore_n 1, 0, 0), (24, .iinc 2 1, 0, 0), (27, .goto (-23), 0, 0), (30, .iload_n 1, 0, 0), (31, .ireturn, 0, 0)]
def K14 : List Ent := [(0, .aload_n 0, 0, 0), (1, .invokespecial 1, 1001, 0), (4, .aload_n 0, 0, 0), (5, .iconst 0, 0, 0), (6, .putfield 7, 1, 0), (9, .aload_n 0, 0, 0), (10, .iconst 0, 0, 0), (11, .putfield 13, 1, 1), (14, .aload_n 0, 0, 0), (15, .iconst 0, 0, 0), (16, .putfield 16, 1, 2), (19, .aload_n 0, 0, 0), (20, .iconst 0, 0, 0), (21, .putfield 19, 1, 3), (24, .aload_n 0, 0, 0), (25, .new 23, 0, 0), (28, .dup, 0, 0), (29, .invokespecial 25, 0, 1), (32, .putfield 26, 1, 4), (35, .return_, 0, 0)]
def K15 : List Ent := [(0, .aload_n 0, 0, 0), (1, .aload_n 1, 0, 0), (2, .getfield 7, 1, 0), (5, .putfield 7, 1, 0), (8, .aload_n 0, 0, 0), (9, .aload_n 1, 0, 0), (10, .getfield 13, 1, 1), (13, .putfield 13, 1, 1), (16, .aload_n 0, 0, 0), (17, .aload_n 1, 0, 0), (18, .getfield 16, 1, 2), (21, .putfield 16, 1, 2), (24, .aload_n 0, 0, 0), (25, .aload_n 1, 0, 0), (26, .getfield 19, 1, 3), (29, .putfield 19, 1, 3), (32, .aload_n 0, 0, 0), (33, .getfield 26, 1, 4), (36, .aload_n 1, 0, 0), (37, .getfield 26, 1, 4), (40, .invokevirtual 30, 1, 0), (43, .return_, 0, 0)]
def K16 : List Ent := [(0, .aload_n 0, 0, 0), (1, .invokespecial 3, 1001, 0), (4, .aload_n 0, 0, 0), (5, .bipush 60, 0, 0), (7, .newarray .int, 0, 0), (9, .putfield 9, 2, 0), (12, .aload_n 0, 0, 0), (13, .iconst 0, 0, 0), (14, .putfield 15, 2, 1), (17, .aload_n 0, 0, 0), (18, .iconst 0, 0, 0), (19, .putfield 19, 2, 2), (22, .aload_n 0, 0, 0), (23, .iconst (-1), 0, 0), (24, .putfield 22, 2, 3), (27, .aload_n 0, 0, 0), (28, .iconst 0, 0, 0), (29, .putfield 25, 2, 4), (32, .aload_n 0, 0, 0), (33, .iconst 0, 0, 0), (34, .putfield 28, 2, 5), (37, .aload_n 0, 0, 0), (38, .iconst 0, 0, 0), (39, .putfield 31, 2, 6), (42, .aload_n 0, 0, 0), (43, .iconst 3, 0, 0), (44, .newarray .int, 0, 0), (46, .putfield 34, 2, 7), (49, .aload_n 0, 0, 0), (50, .iconst 0, 0, 0), (51, .putfield 37, 2, 8), (54, .return_, 0, 0)]
def K17 : List Ent := [(0, .aload_n 0, 0, 0), (1, .getfield 15, 2, 1), (4, .bipush 60, 0, 0), (6, .if_icmp .lt 6, 0, 0), (9, .ldc 40, 0, -2000000003), (11, .ireturn, 0, 0), (12, .aload_n 0, 0, 0), (13, .getfield 9, 2, 0), (16, .aload_n 0, 0, 0), (17, .getfield 15, 2, 1), (20, .iload_n 1, 0, 0), (21, .iastore, 0, 0), (22, .aload_n 0, 0, 0), (23, .dup, 0, 0), (24, .getfield 15, 2, 1), (27, .iconst 1, 0, 0), (28, .iadd, 0, 0), (29, .putfield 15, 2, 1), (32, .aload_n 0, 0, 0), (33, .getfield 15, 2, 1), (36, .ireturn, 0, 0)]
def K18 : List Ent := [(0, .aload_n 0, 0, 0), (1, .iconst (-1), 0, 0), (2, .putfield 22, 2, 3), (5, .iconst 0, 0, 0), (6, .istore_n 2, 0, 0), (7, .aload_n 0, 0, 0), (8, .iconst 0, 0, 0), (9, .putfield 19, 2, 2), (12, .aload_n 0, 0, 0), (13, .getfield 19, 2, 2), (16, .bipush 60, 0, 0), (18, .if_icmp .ge 71, 0, 0), (21, .iload_n 2, 0, 0), (22, .aload_n 0, 0, 0), (23, .getfield 15, 2, 1), (26, .if_icmp .ge 63, 0, 0), (29, .aload_n 0, 0, 0), (30, .iload_n 2, 0, 0), (31, .invokevirtual 41, 20, 0), (34, .ifCond .ne 16, 0, 0), (37, .aload_n 0, 0, 0), (38, .iload_n 2, 0, 0), (39, .iconst 1, 0, 0), (40, .aload_n 0, 0, 0), (41, .getfield 37, 2, 8), (44, .iload_n 2, 0, 0), (45, .isub, 0, 0), (46, .invokevirtual 45, 19, 0), (49, .return_, 0, 0), (50, .aload_n 0, 0, 0), (51, .aload_n 1, 0, 0), (52, .invokevirtual 49, 24, 0), (55, .istore_n 3, 0, 0), (56, .iload_n 3, 0, 0), (57, .invokestatic 53, 86, 1), (60, .ifCond .eq 11, 0, 0), (63, .aload_n 0, 0, 0), (64, .iload_n 2, 0, 0), (65, .iconst 2, 0, 0), (66, .iload_n 3, 0, 0), (67, .invokevirtual 45, 19, 0), (70, .return_, 0, 0), (71, .aload_n 0, 0, 0), (72, .getfield 37, 2, 8), (75, .istore_n 2, 0, 0), (76, .aload_n 0, 0, 0), (77, .dup, 0, 0), (78, .getfield 19, 2, 2), (81, .iconst 1, 0, 0), (82, .iadd, 0, 0), (83, .putfield 19, 2, 2), (86, .goto (-74), 0, 0), (89, .return_, 0, 0)]
def K19 : List Ent := [(0, .aload_n 0, 0, 0), (1, .iload_n 1, 0, 0), (2, .putfield 22, 2, 3), (5, .aload_n 0, 0, 0), (6, .iload_n 2, 0, 0), (7, .putfield 25, 2, 4), (10, .aload_n 0, 0, 0), (11, .iload_n 3, 0, 0), (12, .putfield 28, 2, 5), (15, .return_, 0, 0)]
def K20 : List Ent := [(0, .aload_n 0, 0, 0), (1, .iload_n 1, 0, 0), (2, .putfield 37, 2, 8), (5, .aload_n 0, 0, 0), (6, .aload_n 0, 0, 0), (7, .getfield 9, 2, 0), (10, .iload_n 1, 0, 0), (11, .iaload, 0, 0), (12, .putfield 31, 2, 6), (15, .aload_n 0, 0, 0), (16, .getfield 31, 2, 6), (19, .invokestatic 56, 21, 0), (22, .istore_n 2, 0, 0), (23, .iload_n 2, 0, 0), (24, .ifCond .ne 5, 0, 0), (27, .iconst 0, 0, 0), (28, .ireturn, 0, 0), (29, .aload_n 0, 0, 0), (30, .dup, 0, 0), (31, .getfield 37, 2, 8), (34, .iconst 1, 0, 0), (35, .iadd, 0, 0), (36, .putfield 37, 2, 8), (39, .iconst 0, 0, 0), (40, .istore_n 3, 0, 0), (41, .iload_n 3, 0, 0), (42, .iload_n 2, 0, 0), (43, .if_icmp .ge 40, 0, 0), (46, .aload_n 0, 0, 0), (47, .iload_n 3, 0, 0), (48, .invokevirtual 60, 22, 0), (51, .ifCond .eq 24, 0, 0), (54, .aload_n 0, 0, 0), (55, .iload_n 3, 0, 0), (56, .iload_n 2, 0, 0), (57, .iconst 1, 0, 0), (58, .isub, 0, 0), (59, .if_icmp .ne 8, 0, 0), (62, .bipush 59, 0, 0), (64, .goto 5, 0, 0), (67, .bipush 44, 0, 0), (69, .invokevirtual 63, 23, 0), (72, .ifCond .ne 5, 0, 0), (75, .iconst 0, 0, 0), (76, .ireturn, 0, 0), (77, .iinc 3 1, 0, 0), (80, .goto (-39), 0, 0), (83, .iconst 1, 0, 0), (84, .ireturn, 0, 0)]
def K21 : List Ent := [(0, .iload_n 0, 0, 0), (1, .tableswitch 101 97 116 #[97, 101, 101, 101, 101, 101, 101, 101, 101, 101, 95, 101, 101, 95, 101, 99, 101, 97, 101, 97], 95, 0), (96, .iconst 1, 0, 0), (97, .ireturn, 0, 0), (98, .iconst 2, 0, 0), (99, .ireturn, 0, 0), (100, .iconst 3, 0, 0), (101, .ireturn, 0, 0), (102, .iconst 0, 0, 0), (103, .ireturn, 0, 0)]
def K22 : List Ent := [(0, .iconst 0, 0, 0), (1, .istore_n 2, 0, 0), (2, .iconst 0, 0, 0), (3, .istore_n 3, 0, 0), (4, .iload_n 2, 0, 0), (5, .iconst 3, 0, 0), (6, .if_icmp .ge 67, 0, 0), (9, .aload_n 0, 0, 0), (10, .getfield 37, 2, 8), (13, .aload_n 0, 0, 0), (14, .getfield 15, 2, 1), (17, .if_icmp .ge 56, 0, 0), (20, .aload_n 0, 0, 0), (21, .getfield 9, 2, 0), (24, .aload_n 0, 0, 0), (25, .getfield 37, 2, 8), (28, .iaload, 0, 0), (29, .bipush 48, 0, 0), (31, .bipush 57, 0, 0), (33, .invokestatic 67, 85, 1), (36, .ifCond .eq 37, 0, 0), (39, .iload_n 3, 0, 0), (40, .bipush 10, 0, 0), (42, .imul, 0, 0), (43, .aload_n 0, 0, 0), (44, .getfield 9, 2, 0), (47, .aload_n 0, 0, 0), (48, .getfield 37, 2, 8), (51, .iaload, 0, 0), (52, .iadd, 0, 0), (53, .bipush 48, 0, 0), (55, .isub, 0, 0), (56, .istore_n 3, 0, 0), (57, .iinc 2 1, 0, 0), (60, .aload_n 0, 0, 0), (61, .dup, 0, 0), (62, .getfield 37, 2, 8), (65, .iconst 1, 0, 0), (66, .iadd, 0, 0), (67, .putfield 37, 2, 8), (70, .goto (-66), 0, 0), (73, .aload_n 0, 0, 0), (74, .getfield 34, 2, 7), (77, .iload_n 1, 0, 0), (78, .iload_n 3, 0, 0), (79, .iastore, 0, 0), (80, .iload_n 2, 0, 0), (81, .ifCond .le 7, 0, 0), (84, .iconst 1, 0, 0), (85, .goto 4, 0, 0), (88, .iconst 0, 0, 0), (89, .ireturn, 0, 0)]
def K23 : List Ent := [(0, .aload_n 0, 0, 0), (1, .getfield 37, 2, 8), (4, .aload_n 0, 0, 0), (5, .getfield 15, 2, 1), (8, .if_icmp .ge 16, 0, 0), (11, .aload_n 0, 0, 0), (12, .getfield 9, 2, 0), (15, .aload_n 0, 0, 0), (16, .getfield 37, 2, 8), (19, .iaload, 0, 0), (20, .iload_n 1, 0, 0), (21, .if_icmp .eq 5, 0, 0), (24, .iconst 0, 0, 0), (25, .ireturn, 0, 0), (26, .aload_n 0, 0, 0), (27, .dup, 0, 0), (28, .getfield 37, 2, 8), (31, .iconst 1, 0, 0), (32, .iadd, 0, 0), (33, .putfield 37, 2, 8), (36, .iconst 1, 0, 0), (37, .ireturn, 0, 0)]
def K24 : List Ent := [(0, .aload_n 0, 0, 0), (1, .getfield 31, 2, 6), (4, .lookupswitch 137 #[(97, 63), (110, 52), (112, 114), (114, 97), (116, 80)], 52, 0), (56, .aload_n 1, 0, 0), (57, .aload_n 0, 0, 0), (58, .getfield 34, 2, 7), (61, .iconst 0, 0, 0), (62, .iaload, 0, 0), (63, .invokevirtual 71, 39, 0), (66, .ireturn, 0, 0), (67, .aload_n 1, 0, 0), (68, .aload_n 0, 0, 0), (69, .getfield 34, 2, 7), (72, .iconst 0, 0, 0), (73, .iaload, 0, 0), (74, .aload_n 0, 0, 0), (75, .getfield 34, 2, 7), (78, .iconst 1, 0, 0), (79, .iaload, 0, 0), (80, .invokevirtual 76, 40, 0), (83, .ireturn, 0, 0), (84, .aload_n 1, 0, 0), (85, .aload_n 0, 0, 0), (86, .getfield 34, 2, 7), (89, .iconst 0, 0, 0), (90, .iaload, 0, 0), (91, .aload_n 0, 0, 0), (92, .getfield 34, 2, 7), (95, .iconst 1, 0, 0), (96, .iaload, 0, 0), (97, .invokevirtual 80, 41, 0), (100, .ireturn, 0, 0), (101, .aload_n 1, 0, 0), (102, .aload_n 0, 0, 0), (103, .getfield 34, 2, 7), (106, .iconst 0, 0, 0), (107, .iaload, 0, 0), (108, .aload_n 0, 0, 0), (109, .getfield 34, 2, 7), (112, .iconst 1, 0, 0), (113, .iaload, 0, 0), (114, .invokevirtual 83, 42, 0), (117, .ireturn, 0, 0), (118, .aload_n 1, 0, 0), (119, .aload_n 0, 0, 0), (120, .getfield 34, 2, 7), (123, .iconst 0, 0, 0), (124, .iaload, 0, 0), (125, .aload_n 0, 0, 0), (126, .getfield 34, 2, 7), (129, .iconst 1, 0, 0), (130, .iaload, 0, 0), (131, .aload_n 0, 0, 0), (132, .getfield 34, 2, 7), (135, .iconst 2, 0, 0), (136, .iaload, 0, 0), (137, .invokevirtual 86, 47, 0), (140, .ireturn, 0, 0), (141, .aload_n 1, 0, 0), (142, .aload_n 0, 0, 0), (143, .getfield 34, 2, 7), (146, .iconst 0, 0, 0), (147, .iaload, 0, 0), (148, .invokevirtual 90, 49, 0), (151, .ireturn, 0, 0)]
def K25 : List Ent := [(0, .aload_n 0, 0, 0), (1, .invokespecial 3, 1001, 0), (4, .aload_n 0, 0, 0), (5, .bipush 6, 0, 0), (7, .anewarray 9, 1, 0), (10, .putfield 11, 3, 0), (13, .aload_n 0, 0, 0), (14, .iconst 3, 0, 0), (15, .putfield 17, 3, 1), (18, .aload_n 0, 0, 0), (19, .bipush 8, 0, 0), (21, .newarray .int, 0, 0), (23, .putfield 21, 3, 2), (26, .aload_n 0, 0, 0), (27, .bipush 8, 0, 0), (29, .newarray .int, 0, 0), (31, .putfield 25, 3, 3), (34, .aload_n 0, 0, 0), (35, .iconst 0, 0, 0), (36, .putfield 28, 3, 4), (39, .aload_n 0, 0, 0), (40, .bipush 8, 0, 0), (42, .anewarray 31, 2, 0), (45, .putfield 33, 3, 5), (48, .aload_n 0, 0, 0), (49, .iconst 0, 0, 0), (50, .putfield 37, 3, 6), (53, .aload_n 0, 0, 0), (54, .iconst 0, 0, 0), (55, .putfield 40, 3, 7), (58, .aload_n 0, 0, 0), (59, .iconst 0, 0, 0), (60, .putfield 43, 3, 8), (63, .aload_n 0, 0, 0), (64, .iconst 0, 0, 0), (65, .putfield 46, 3, 9), (68, .aload_n 0, 0, 0), (69, .iconst 0, 0, 0), (70, .putfield 49, 3, 10), (73, .iconst 0, 0, 0), (74, .istore_n 1, 0, 0), (75, .iload_n 1, 0, 0), (76, .bipush 6, 0, 0), (78, .if_icmp .ge 22, 0, 0), (81, .aload_n 0, 0, 0), (82, .getfield 11, 3, 0), (85, .iload_n 1, 0, 0), (86, .new 9, 0, 0), (89, .dup, 0, 0), (90, .invokespecial 52, 0, 1), (93, .aastore, 0, 0), (94, .iinc 1 1, 0, 0), (97, .goto (-22), 0, 0), (100, .iconst 0, 0, 0), (101, .istore_n 1, 0, 0), (102, .iload_n 1, 0, 0), (103, .bipush 8, 0, 0), (105, .if_icmp .ge 22, 0, 0), (108, .aload_n 0, 0, 0), (109, .getfield 33, 3, 5), (112, .iload_n 1, 0, 0), (113, .new 31, 1, 0), (116, .dup, 0, 0), (117, .invokespecial 53, 14, 1), (120, .aastore, 0, 0), (121, .iinc 1 1, 0, 0), (124, .goto (-22), 0, 0), (127, .return_, 0, 0)]
def K26 : List Ent := [(0, .iconst 0, 0, 0), (1, .istore_n 2, 0, 0), (2, .iload_n 2, 0, 0), (3, .bipush 6, 0, 0), (5, .if_icmp .ge 24, 0, 0), (8, .aload_n 0, 0, 0), (9, .getfield 11, 3, 0), (12, .iload_n 2, 0, 0), (13, .aaload, 0, 0), (14, .aload_n 1, 0, 0), (15, .getfield 11, 3, 0), (18, .iload_n 2, 0, 0), (19, .aaload, 0, 0), (20, .invokevirtual 54, 1, 0), (23, .iinc 2 1, 0, 0), (26, .goto (-24), 0, 0), (29, .iconst 0, 0, 0), (30, .istore_n 2, 0, 0), (31, .iload_n 2, 0, 0), (32, .bipush 8, 0, 0), (34, .if_icmp .ge 24, 0, 0), (37, .aload_n 0, 0, 0), (38, .getfield 33, 3, 5), (41, .iload_n 2, 0, 0), (42, .aaload, 0, 0), (43, .aload_n 1, 0, 0), (44, .getfield 33, 3, 5), (47, .iload_n 2, 0, 0), (48, .aaload, 0, 0), (49, .invokevirtual 58, 15, 0), (52, .iinc 2 1, 0, 0), (55, .goto (-24), 0, 0), (58, .aload_n 1, 0, 0), (59, .getfield 21, 3, 2), (62, .iconst 0, 0, 0), (63, .aload_n 0, 0, 0), (64, .getfield 21, 3, 2), (67, .iconst 0, 0, 0), (68, .bipush 8, 0, 0), (70, .invokestatic 61, 1000, 0), (73, .aload_n 1, 0, 0), (74, .getfield 25, 3, 3), (77, .iconst 0, 0, 0), (78, .aload_n 0, 0, 0), (79, .getfield 25, 3, 3), (82, .iconst 0, 0, 0), (83, .bipush 8, 0, 0), (85, .invokestatic 61, 1000, 0), (88, .aload_n 0, 0, 0), (89, .aload_n 1, 0, 0), (90, .getfield 17, 3, 1), (93, .putfield 17, 3, 1), (96, .aload_n 0, 0, 0), (97, .aload_n 1, 0, 0), (98, .getfield 28, 3, 4), (101, .putfield 28, 3, 4), (104, .aload_n 0, 0, 0), (105, .aload_n 1, 0, 0), (106, .getfield 37, 3, 6), (109, .putfield 37, 3, 6), (112, .aload_n 0, 0, 0), (113, .aload_n 1, 0, 0), (114, .getfield 40, 3, 7), (117, .putfield 40, 3, 7), (120, .aload_n 0, 0, 0), (121, .aload_n 1, 0, 0), (122, .getfield 43, 3, 8), (125, .putfield 43, 3, 8), (128, .aload_n 0, 0, 0), (129, .aload_n 1, 0, 0), (130, .getfield 46, 3, 9), (133, .putfield 46, 3, 9), (136, .aload_n 0, 0, 0), (137, .aload_n 1, 0, 0), (138, .getfield 49, 3, 10), (141, .putfield 49, 3, 10), (144, .return_, 0, 0)]
def K27 : List Ent := [(0, .iload_n 1, 0, 0), (1, .iconst 0, 0, 0), (2, .iconst 5, 0, 0), (3, .invokestatic 67, 85, 1), (6, .ifCond .eq 18, 0, 0), (9, .aload_n 0, 0, 0), (10, .getfield 17, 3, 1), (13, .iconst 1, 0, 0), (14, .iload_n 1, 0, 0), (15, .ishl, 0, 0), (16, .iand, 0, 0), (17, .ifCond .eq 7, 0, 0), (20, .iconst 1, 0, 0), (21, .goto 4, 0, 0), (24, .iconst 0, 0, 0), (25, .ireturn, 0, 0)]
def K28 : List Ent := [(0, .iload_n 1, 0, 0), (1, .iconst 0, 0, 0), (2, .aload_n 0, 0, 0), (3, .getfield 28, 3, 4), (6, .iconst 1, 0, 0), (7, .isub, 0, 0), (8, .invokestatic 67, 85, 1), (11, .ireturn, 0, 0)]
def K29 : List Ent := [(0, .aload_n 0, 0, 0), (1, .getfield 25, 3, 3), (4, .iload_n 1, 0, 0), (5, .iaload, 0, 0), (6, .iconst (-1), 0, 0), (7, .if_icmp .eq 7, 0, 0), (10, .iconst 1, 0, 0), (11, .goto 4, 0, 0), (14, .iconst 0, 0, 0), (15, .ireturn, 0, 0)]
def K30 : List Ent := [(0, .aload_n 0, 0, 0), (1, .getfield 17, 3, 1), (4, .invokestatic 71, 153, 0), (7, .ireturn, 0, 0)]
def K31 : List Ent := [(0, .iconst 0, 0, 0), (1, .istore_n 1, 0, 0), (2, .iconst 0, 0, 0), (3, .istore_n 2, 0, 0), (4, .iload_n 2, 0, 0), (5, .aload_n 0, 0, 0), (6, .getfield 28, 3, 4), (9, .if_icmp .ge 20, 0, 0), (12, .aload_n 0, 0, 0), (13, .iload_n 2, 0, 0), (14, .invokevirtual 77, 29, 0), (17, .ifCond .ne 6, 0, 0), (20, .iinc 1 1, 0, 0), (23, .iinc 2 1, 0, 0), (26, .goto (-22), 0, 0), (29, .iload_n 1, 0, 0), (30, .ireturn, 0, 0)]
def K32 : List Ent := [(0, .aload_n 0, 0, 0), (1, .getfield 11, 3, 0), (4, .aload_n 0, 0, 0), (5, .getfield 21, 3, 2), (8, .iload_n 1, 0, 0), (9, .iaload, 0, 0), (10, .aaload, 0, 0), (11, .areturn, 0, 0)]
def K33 : List Ent := [(0, .aload_n 0, 0, 0), (1, .iload_n 1, 0, 0), (2, .invokevirtual 81, 32, 0), (5, .getfield 85, 0, 0), (8, .iload_n 1, 0, 0), (9, .iaload, 0, 0), (10, .ireturn, 0, 0)]
def K34 : List Ent := [(0, .iconst 0, 0, 0), (1, .istore_n 2, 0, 0), (2, .iconst 0, 0, 0), (3, .istore_n 3, 0, 0), (4, .iload_n 3, 0, 0), (5, .aload_n 0, 0, 0), (6, .getfield 28, 3, 4), (9, .if_icmp .ge 33, 0, 0), (12, .aload_n 0, 0, 0), (13, .getfield 21, 3, 2), (16, .iload_n 3, 0, 0), (17, .iaload, 0, 0), (18, .iload_n 1, 0, 0), (19, .if_icmp .ne 17, 0, 0), (22, .aload_n 0, 0, 0), (23, .iload_n 3, 0, 0), (24, .invokevirtual 77, 29, 0), (27, .ifCond .ne 9, 0, 0), (30, .iload_n 2, 0, 0), (31, .iconst 1, 0, 0), (32, .iload_n 3, 0, 0), (33, .ishl, 0, 0), (34, .ior, 0, 0), (35, .istore_n 2, 0, 0), (36, .iinc 3 1, 0, 0), (39, .goto (-35), 0, 0), (42, .iload_n 2, 0, 0), (43, .ireturn, 0, 0)]
def K35 : List Ent := [(0, .iconst 0, 0, 0), (1, .istore_n 2, 0, 0), (2, .iconst 0, 0, 0), (3, .istore_n 3, 0, 0), (4, .iload_n 3, 0, 0), (5, .bipush 6, 0, 0), (7, .if_icmp .ge 41, 0, 0), (10, .aload_n 0, 0, 0), (11, .iload_n 3, 0, 0), (12, .invokevirtual 88, 27, 0), (15, .ifCond .eq 27, 0, 0), (18, .aload_n 0, 0, 0), (19, .getfield 11, 3, 0), (22, .iload_n 3, 0, 0), (23, .aaload, 0, 0), (24, .aload_n 0, 0, 0), (25, .getfield 11, 3, 0), (28, .iload_n 1, 0, 0), (29, .aaload, 0, 0), (30, .invokevirtual 91, 9, 0), (33, .ifCond .eq 9, 0, 0), (36, .iload_n 2, 0, 0), (37, .iconst 1, 0, 0), (38, .iload_n 3, 0, 0), (39, .ishl, 0, 0), (40, .ior, 0, 0), (41, .istore_n 2, 0, 0), (42, .iinc 3 1, 0, 0), (45, .goto (-41), 0, 0), (48, .iload_n 2, 0, 0), (49, .ireturn, 0, 0)]
def K36 : List Ent := [(0, .iconst 0, 0, 0), (1, .istore_n 2, 0, 0), (2, .iconst 0, 0, 0), (3, .istore_n 3, 0, 0), (4, .iload_n 3, 0, 0), (5, .bipush 6, 0, 0), (7, .if_icmp .ge 42, 0, 0), (10, .aload_n 0, 0, 0), (11, .iload_n 3, 0, 0), (12, .invokevirtual 88, 27, 0), (15, .ifCond .eq 28, 0, 0), (18, .aload_n 0, 0, 0), (19, .getfield 11, 3, 0), (22, .iload_n 3, 0, 0), (23, .aaload, 0, 0), (24, .getfield 85, 0, 0), (27, .iload_n 1, 0, 0), (28, .iaload, 0, 0), (29, .aload_n 0, 0, 0), (30, .iload_n 1, 0, 0), (31, .invokevirtual 95, 33, 0), (34, .if_icmp .ne 9, 0, 0), (37, .iload_n 2, 0, 0), (38, .iconst 1, 0, 0), (39, .iload_n 3, 0, 0), (40, .ishl, 0, 0), (41, .ior, 0, 0), (42, .istore_n 2, 0, 0), (43, .iinc 3 1, 0, 0), (46, .goto (-42), 0, 0), (49, .iload_n 2, 0, 0), (50, .ireturn, 0, 0)]
def K37 : List Ent := [(0, .iconst 0, 0, 0), (1, .istore_n 2, 0, 0), (2, .iconst 0, 0, 0), (3, .istore_n 3, 0, 0), (4, .iload_n 3, 0, 0), (5, .bipush 6, 0, 0), (7, .if_icmp .ge 36, 0, 0), (10, .aload_n 0, 0, 0), (11, .iload_n 3, 0, 0), (12, .invokevirtual 88, 27, 0), (15, .ifCond .eq 22, 0, 0), (18, .aload_n 0, 0, 0), (19, .getfield 11, 3, 0), (22, .iload_n 3, 0, 0), (23, .aaload, 0, 0), (24, .iload_n 1, 0, 0), (25, .invokevirtual 98, 5, 0), (28, .ifCond .eq 9, 0, 0), (31, .iload_n 2, 0, 0), (32, .iconst 1, 0, 0), (33, .iload_n 3, 0, 0), (34, .ishl, 0, 0), (35, .ior, 0, 0), (36, .istore_n 2, 0, 0), (37, .iinc 3 1, 0, 0), (40, .goto (-36), 0, 0), (43, .iload_n 2, 0, 0), (44, .ireturn, 0, 0)]
def K38 : List Ent := [(0, .aconst_null, 0, 0), (1, .astore_n 2, 0, 0), (2, .iconst 0, 0, 0), (3, .istore_n 3, 0, 0), (4, .iload_n 3, 0, 0), (5, .bipush 6, 0, 0), (7, .if_icmp .ge 48, 0, 0), (10, .aload_n 0, 0, 0), (11, .iload_n 3, 0, 0), (12, .invokevirtual 88, 27, 0), (15, .ifCond .eq 34, 0, 0), (18, .aload_n 2, 0, 0), (19, .ifnull 23, 0, 0), (22, .aload_n 0, 0, 0), (23, .getfield 11, 3, 0), (26, .iload_n 3, 0, 0), (27, .aaload, 0, 0), (28, .getfield 85, 0, 0), (31, .iload_n 1, 0, 0), (32, .iaload, 0, 0), (33, .aload_n 2, 0, 0), (34, .getfield 85, 0, 0), (37, .iload_n 1, 0, 0), (38, .iaload, 0, 0), (39, .if_icmp .ge 10, 0, 0), (42, .aload_n 0, 0, 0), (43, .getfield 11, 3, 0), (46, .iload_n 3, 0, 0), (47, .aaload, 0, 0), (48, .astore_n 2, 0, 0), (49, .iinc 3 1, 0, 0), (52, .goto (-48), 0, 0), (55, .aload_n 2, 0, 0), (56, .ifnonnull 7, 0, 0), (59, .iconst 0, 0, 0), (60, .goto 16, 0, 0), (63, .aload_n 2, 0, 0), (64, .getfield 101, 0, 1), (67, .iload_n 1, 0, 0), (68, .iaload, 0, 0), (69, .aload_n 2, 0, 0), (70, .getfield 104, 0, 2), (73, .iload_n 1, 0, 0), (74, .iaload, 0, 0), (75, .isub, 0, 0), (76, .ireturn, 0, 0)]
def K39 : List Ent := [(0, .aload_n 0, 0, 0), (1, .iload_n 1, 0, 0), (2, .invokevirtual 88, 27, 0), (5, .ifCond .ne 6, 0, 0), (8, .ldc 107, 0, -2000000001), (10, .ireturn, 0, 0), (11, .aload_n 0, 0, 0), (12, .getfield 28, 3, 4), (15, .bipush 8, 0, 0), (17, .if_icmp .lt 6, 0, 0), (20, .ldc 108, 0, -2000000003), (22, .ireturn, 0, 0), (23, .aload_n 0, 0, 0), (24, .getfield 28, 3, 4), (27, .istore_n 2, 0, 0), (28, .aload_n 0, 0, 0), (29, .dup, 0, 0), (30, .getfield 28, 3, 4), (33, .iconst 1, 0, 0), (34, .iadd, 0, 0), (35, .putfield 28, 3, 4), (38, .aload_n 0, 0, 0), (39, .getfield 21, 3, 2), (42, .iload_n 2, 0, 0), (43, .iload_n 1, 0, 0), (44, .iastore, 0, 0), (45, .aload_n 0, 0, 0), (46, .getfield 25, 3, 3), (49, .iload_n 2, 0, 0), (50, .iconst (-1), 0, 0), (51, .iastore, 0, 0), (52, .aload_n 0, 0, 0), (53, .getfield 11, 3, 0), (56, .iload_n 1, 0, 0), (57, .aaload, 0, 0), (58, .iload_n 2, 0, 0), (59, .iconst 0, 0, 0), (60, .iconst 0, 0, 0), (61, .invokevirtual 109, 6, 0), (64, .iload_n 2, 0, 0), (65, .ireturn, 0, 0)]
def K40 : List Ent := [(0, .aload_n 0, 0, 0), (1, .iload_n 1, 0, 0), (2, .invokevirtual 113, 28, 0), (5, .ifCond .eq 14, 0, 0), (8, .iload_n 2, 0, 0), (9, .iconst 1, 0, 0), (10, .sipush 999, 0, 0), (13, .invokestatic 67, 85, 1), (16, .ifCond .ne 6, 0, 0), (19, .ldc 107, 0, -2000000001), (21, .ireturn, 0, 0), (22, .aload_n 0, 0, 0), (23, .iload_n 1, 0, 0), (24, .invokevirtual 77, 29, 0), (27, .ifCond .eq 6, 0, 0), (30, .ldc 116, 0, -2000000002), (32, .ireturn, 0, 0), (33, .aload_n 0, 0, 0), (34, .iload_n 1, 0, 0), (35, .invokevirtual 81, 32, 0), (38, .iload_n 1, 0, 0), (39, .iload_n 2, 0, 0), (40, .iconst 0, 0, 0), (41, .invokevirtual 109, 6, 0), (44, .aload_n 0, 0, 0), (45, .iload_n 1, 0, 0), (46, .invokevirtual 81, 32, 0), (49, .invokevirtual 117, 12, 0), (52, .ireturn, 0, 0)]
def K41 : List Ent := [(0, .aload_n 0, 0, 0), (1, .iload_n 1, 0, 0), (2, .invokevirtual 113, 28, 0), (5, .ifCond .eq 14, 0, 0), (8, .iload_n 2, 0, 0), (9, .iconst 1, 0, 0), (10, .sipush 999, 0, 0), (13, .invokestatic 67, 85, 1), (16, .ifCond .ne 6, 0, 0), (19, .ldc 107, 0, -2000000001), (21, .ireturn, 0, 0), (22, .aload_n 0, 0, 0), (23, .iload_n 1, 0, 0), (24, .invokevirtual 77, 29, 0), (27, .ifCond .ne 15, 0, 0), (30, .aload_n 0, 0, 0), (31, .iload_n 1, 0, 0), (32, .invokevirtual 81, 32, 0), (35, .invokevirtual 117, 12, 0), (38, .iload_n 2, 0, 0), (39, .if_icmp .ge 6, 0, 0), (42, .ldc 116, 0, -2000000002), (44, .ireturn, 0, 0), (45, .aload_n 0, 0, 0), (46, .iload_n 1, 0, 0), (47, .invokevirtual 81, 32, 0), (50, .iload_n 1, 0, 0), (51, .iconst 0, 0, 0), (52, .iload_n 2, 0, 0), (53, .invokevirtual 109, 6, 0), (56, .aload_n 0, 0, 0), (57, .iload_n 1, 0, 0), (58, .invokevirtual 81, 32, 0), (61, .invokevirtual 117, 12, 0), (64, .ireturn, 0, 0)]
def K42 : List Ent := [(0, .aload_n 0, 0, 0), (1, .iload_n 1, 0, 0), (2, .invokevirtual 113, 28, 0), (5, .ifCond .eq 16, 0, 0), (8, .aload_n 0, 0, 0), (9, .iload_n 2, 0, 0), (10, .invokevirtual 113, 28, 0), (13, .ifCond .eq 8, 0, 0), (16, .iload_n 1, 0, 0), (17, .iload_n 2, 0, 0), (18, .if_icmp .ne 6, 0, 0), (21, .ldc 107, 0, -2000000001), (23, .ireturn, 0, 0), (24, .aload_n 0, 0, 0), (25, .iload_n 1, 0, 0), (26, .invokevirtual 77, 29, 0), (29, .ifCond .ne 26, 0, 0), (32, .aload_n 0, 0, 0), (33, .iload_n 2, 0, 0), (34, .invokevirtual 77, 29, 0), (37, .ifCond .ne 18, 0, 0), (40, .aload_n 0, 0, 0), (41, .getfield 21, 3, 2), (44, .iload_n 1, 0, 0), (45, .iaload, 0, 0), (46, .aload_n 0, 0, 0), (47, .getfield 21, 3, 2), (50, .iload_n 2, 0, 0), (51, .iaload, 0, 0), (52, .if_icmp .eq 6, 0, 0), (55, .ldc 116, 0, -2000000002), (57, .ireturn, 0, 0), (58, .aload_n 0, 0, 0), (59, .iload_n 1, 0, 0), (60, .invokevirtual 81, 32, 0), (63, .iload_n 1, 0, 0), (64, .iload_n 2, 0, 0), (65, .invokevirtual 121, 7, 0), (68, .aload_n 0, 0, 0), (69, .getfield 25, 3, 3), (72, .iload_n 1, 0, 0), (73, .iload_n 2, 0, 0), (74, .iastore, 0, 0), (75, .aload_n 0, 0, 0), (76, .invokevirtual 125, 31, 0), (79, .ireturn, 0, 0)]
def K43 : List Ent := [(0, .aload_n 0, 0, 0), (1, .iload_n 1, 0, 0), (2, .invokevirtual 113, 28, 0), (5, .ifCond .eq 11, 0, 0), (8, .aload_n 0, 0, 0), (9, .iload_n 2, 0, 0), (10, .invokevirtual 88, 27, 0), (13, .ifCond .ne 6, 0, 0), (16, .ldc 107, 0, -2000000001), (18, .ireturn, 0, 0), (19, .aload_n 0, 0, 0), (20, .iload_n 1, 0, 0), (21, .invokevirtual 77, 29, 0), (24, .ifCond .ne 32, 0, 0), (27, .aload_n 0, 0, 0), (28, .getfield 21, 3, 2), (31, .iload_n 1, 0, 0), (32, .iaload, 0, 0), (33, .iload_n 2, 0, 0), (34, .if_icmp .eq 22, 0, 0), (37, .aload_n 0, 0, 0), (38, .getfield 11, 3, 0), (41, .iload_n 2, 0, 0), (42, .aaload, 0, 0), (43, .getfield 85, 0, 0), (46, .iload_n 1, 0, 0), (47, .iaload, 0, 0), (48, .aload_n 0, 0, 0), (49, .iload_n 1, 0, 0), (50, .invokevirtual 95, 33, 0), (53, .if_icmp .eq 6, 0, 0), (56, .ldc 116, 0, -2000000002), (58, .ireturn, 0, 0), (59, .aload_n 0, 0, 0), (60, .getfield 21, 3, 2), (63, .iload_n 1, 0, 0), (64, .iaload, 0, 0), (65, .istore_n 3, 0, 0), (66, .aload_n 0, 0, 0), (67, .getfield 21, 3, 2), (70, .iload_n 1, 0, 0), (71, .iload_n 2, 0, 0), (72, .iastore, 0, 0), (73, .iload_n 3, 0, 0), (74, .ireturn, 0, 0)]
def K44 : List Ent := [(0, .aload_n 0, 0, 0), (1, .iload_n 1, 0, 0), (2, .invokevirtual 88, 27, 0), (5, .ifCond .ne 6, 0, 0), (8, .ldc 107, 0, -2000000001), (10, .ireturn, 0, 0), (11, .iconst 0, 0, 0), (12, .istore_n 2, 0, 0), (13, .iload_n 2, 0, 0), (14, .bipush 6, 0, 0), (16, .if_icmp .ge 46, 0, 0), (19, .aload_n 0, 0, 0), (20, .iload_n 2, 0, 0), (21, .invokevirtual 88, 27, 0), (24, .ifCond .ne 32, 0, 0), (27, .aload_n 0, 0, 0), (28, .dup, 0, 0), (29, .getfield 17, 3, 1), (32, .iconst 1, 0, 0), (33, .iload_n 2, 0, 0), (34, .ishl, 0, 0), (35, .ior, 0, 0), (36, .putfield 17, 3, 1), (39, .aload_n 0, 0, 0), (40, .getfield 11, 3, 0), (43, .iload_n 2, 0, 0), (44, .aaload, 0, 0), (45, .aload_n 0, 0, 0), (46, .getfield 11, 3, 0), (49, .iload_n 1, 0, 0), (50, .aaload, 0, 0), (51, .invokevirtual 54, 1, 0), (54, .iload_n 2, 0, 0), (55, .ireturn, 0, 0), (56, .iinc 2 1, 0, 0), (59, .goto (-46), 0, 0), (62, .ldc 108, 0, -2000000003), (64, .ireturn, 0, 0)]
def K45 : List Ent := [(0, .aload_n 0, 0, 0), (1, .iload_n 1, 0, 0), (2, .invokevirtual 88, 27, 0), (5, .ifCond .ne 6, 0, 0), (8, .ldc 107, 0, -2000000001), (10, .ireturn, 0, 0), (11, .aload_n 0, 0, 0), (12, .iload_n 1, 0, 0), (13, .invokevirtual 128, 34, 0), (16, .ifCond .ne 11, 0, 0), (19, .aload_n 0, 0, 0), (20, .invokevirtual 131, 30, 0), (23, .iconst 1, 0, 0), (24, .if_icmp .ne 6, 0, 0), (27, .ldc 116, 0, -2000000002), (29, .ireturn, 0, 0), (30, .aload_n 0, 0, 0), (31, .dup, 0, 0), (32, .getfield 17, 3, 1), (35, .iconst 1, 0, 0), (36, .iload_n 1, 0, 0), (37, .ishl, 0, 0), (38, .iconst (-1), 0, 0), (39, .ixor, 0, 0), (40, .iand, 0, 0), (41, .putfield 17, 3, 1), (44, .iconst 0, 0, 0), (45, .istore_n 2, 0, 0), (46, .iload_n 2, 0, 0), (47, .aload_n 0, 0, 0), (48, .getfield 37, 3, 6), (51, .if_icmp .ge 32, 0, 0), (54, .aload_n 0, 0, 0), (55, .getfield 33, 3, 5), (58, .iload_n 2, 0, 0), (59, .aaload, 0, 0), (60, .getfield 134, 1, 1), (63, .iload_n 1, 0, 0), (64, .if_icmp .ne 13, 0, 0), (67, .aload_n 0, 0, 0), (68, .getfield 33, 3, 5), (71, .iload_n 2, 0, 0), (72, .aaload, 0, 0), (73, .iconst 1, 0, 0), (74, .putfield 137, 1, 3), (77, .iinc 2 1, 0, 0), (80, .goto (-34), 0, 0), (83, .aload_n 0, 0, 0), (84, .invokevirtual 131, 30, 0), (87, .ireturn, 0, 0)]
def K46 : List Ent := [(0, .aload_n 0, 0, 0), (1, .iload_n 1, 0, 0), (2, .invokevirtual 88, 27, 0), (5, .ifCond .eq 16, 0, 0), (8, .aload_n 0, 0, 0), (9, .iload_n 2, 0, 0), (10, .invokevirtual 88, 27, 0), (13, .ifCond .eq 8, 0, 0), (16, .iload_n 1, 0, 0), (17, .iload_n 2, 0, 0), (18, .if_icmp .ne 6, 0, 0), (21, .ldc 107, 0, -2000000001), (23, .ireturn, 0, 0), (24, .aload_n 0, 0, 0), (25, .getfield 11, 3, 0), (28, .iload_n 1, 0, 0), (29, .aaload, 0, 0), (30, .aload_n 0, 0, 0), (31, .getfield 11, 3, 0), (34, .iload_n 2, 0, 0), (35, .aaload, 0, 0), (36, .invokevirtual 141, 8, 0), (39, .istore_n 3, 0, 0), (40, .aload_n 0, 0, 0), (41, .dup, 0, 0), (42, .getfield 49, 3, 10), (45, .iload_n 3, 0, 0), (46, .iadd, 0, 0), (47, .putfield 49, 3, 10), (50, .iload_n 3, 0, 0), (51, .ireturn, 0, 0)]
def K47 : List Ent := [(0, .aload_n 0, 0, 0), (1, .iload_n 1, 0, 0), (2, .invokevirtual 88, 27, 0), (5, .ifCond .eq 26, 0, 0), (8, .aload_n 0, 0, 0), (9, .iload_n 2, 0, 0), (10, .invokevirtual 88, 27, 0), (13, .ifCond .eq 18, 0, 0), (16, .iload_n 1, 0, 0), (17, .iload_n 2, 0, 0), (18, .if_icmp .eq 13, 0, 0), (21, .iload_n 3, 0, 0), (22, .iconst 1, 0, 0), (23, .bipush 99, 0, 0), (25, .invokestatic 67, 85, 1), (28, .ifCond .ne 6, 0, 0), (31, .ldc 107, 0, -2000000001), (33, .ireturn, 0, 0), (34, .aload_n 0, 0, 0), (35, .getfield 37, 3, 6), (38, .bipush 8, 0, 0), (40, .if_icmp .lt 6, 0, 0), (43, .ldc 108, 0, -2000000003), (45, .ireturn, 0, 0), (46, .aload_n 0, 0, 0), (47, .aload_n 0, 0, 0), (48, .getfield 40, 3, 7), (51, .iload_n 3, 0, 0), (52, .iadd, 0, 0), (53, .invokevirtual 145, 48, 0), (56, .astore 4, 0, 0), (58, .aload 4, 0, 0), (60, .iload_n 1, 0, 0), (61, .putfield 149, 1, 0), (64, .aload 4, 0, 0), (66, .iload_n 2, 0, 0), (67, .putfield 134, 1, 1), (70, .aload 4, 0, 0), (72, .iconst 0, 0, 0), (73, .putfield 137, 1, 3), (76, .aload 4, 0, 0), (78, .getfield 152, 1, 4), (81, .aload_n 0, 0, 0), (82, .getfield 11, 3, 0), (85, .iload_n 1, 0, 0), (86, .aaload, 0, 0), (87, .invokevirtual 54, 1, 0), (90, .aload 4, 0, 0), (92, .getfield 156, 1, 2), (95, .ireturn, 0, 0)]
def K48 : List Ent := [(0, .aload_n 0, 0, 0), (1, .getfield 33, 3, 5), (4, .aload_n 0, 0, 0), (5, .getfield 37, 3, 6), (8, .aaload, 0, 0), (9, .astore_n 2, 0, 0), (10, .aload_n 2, 0, 0), (11, .iload_n 1, 0, 0), (12, .putfield 156, 1, 2), (15, .aload_n 0, 0, 0), (16, .getfield 37, 3, 6), (19, .istore_n 3, 0, 0), (20, .iload_n 3, 0, 0), (21, .ifCond .le 38, 0, 0), (24, .aload_n 0, 0, 0), (25, .getfield 33, 3, 5), (28, .iload_n 3, 0, 0), (29, .iconst 1, 0, 0), (30, .isub, 0, 0), (31, .aaload, 0, 0), (32, .getfield 156, 1, 2), (35, .iload_n 1, 0, 0), (36, .if_icmp .le 23, 0, 0), (39, .aload_n 0, 0, 0), (40, .getfield 33, 3, 5), (43, .iload_n 3, 0, 0), (44, .aload_n 0, 0, 0), (45, .getfield 33, 3, 5), (48, .iload_n 3, 0, 0), (49, .iconst 1, 0, 0), (50, .isub, 0, 0), (51, .aaload, 0, 0), (52, .aastore, 0, 0), (53, .iinc 3 (-1), 0, 0), (56, .goto (-36), 0, 0), (59, .aload_n 0, 0, 0), (60, .getfield 33, 3, 5), (63, .iload_n 3, 0, 0), (64, .aload_n 2, 0, 0), (65, .aastore, 0, 0), (66, .aload_n 0, 0, 0), (67, .dup, 0, 0), (68, .getfield 37, 3, 6), (71, .iconst 1, 0, 0), (72, .iadd, 0, 0), (73, .putfield 37, 3, 6), (76, .aload_n 2, 0, 0), (77, .areturn, 0, 0)]
def K49 : List Ent := [(0, .iload_n 1, 0, 0), (1, .iconst 1, 0, 0), (2, .bipush 99, 0, 0), (4, .invokestatic 67, 85, 1), (7, .ifCond .ne 6, 0, 0), (10, .ldc 107, 0, -2000000001), (12, .ireturn, 0, 0), (13, .aload_n 0, 0, 0), (14, .getfield 40, 3, 7), (17, .iload_n 1, 0, 0), (18, .iadd, 0, 0), (19, .sipush 1999, 0, 0), (22, .if_icmp .le 6, 0, 0), (25, .ldc 108, 0, -2000000003), (27, .ireturn, 0, 0), (28, .aload_n 0, 0, 0), (29, .dup, 0, 0), (30, .getfield 40, 3, 7), (33, .iload_n 1, 0, 0), (34, .iadd, 0, 0), (35, .putfield 40, 3, 7), (38, .aload_n 0, 0, 0), (39, .getfield 43, 3, 8), (42, .istore_n 2, 0, 0), (43, .iconst 0, 0, 0), (44, .istore_n 3, 0, 0), (45, .iload_n 3, 0, 0), (46, .aload_n 0, 0, 0), (47, .getfield 37, 3, 6), (50, .if_icmp .ge 35, 0, 0), (53, .aload_n 0, 0, 0), (54, .getfield 33, 3, 5), (57, .iload_n 3, 0, 0), (58, .aaload, 0, 0), (59, .getfield 156, 1, 2), (62, .aload_n 0, 0, 0), (63, .getfield 40, 3, 7), (66, .if_icmp .gt 19, 0, 0), (69, .aload_n 0, 0, 0), (70, .aload_n 0, 0, 0), (71, .getfield 33, 3, 5), (74, .iload_n 3, 0, 0), (75, .aaload, 0, 0), (76, .invokevirtual 159, 50, 0), (79, .iinc 3 1, 0, 0), (82, .goto (-37), 0, 0), (85, .aload_n 0, 0, 0), (86, .iload_n 3, 0, 0), (87, .invokevirtual 162, 51, 0), (90, .aload_n 0, 0, 0), (91, .getfield 43, 3, 8), (94, .iload_n 2, 0, 0), (95, .isub, 0, 0), (96, .ireturn, 0, 0)]
def K50 : List Ent := [(0, .aload_n 1, 0, 0), (1, .getfield 137, 1, 3), (4, .ifCond .eq 16, 0, 0), (7, .aload_n 0, 0, 0), (8, .dup, 0, 0), (9, .getfield 46, 3, 9), (12, .iconst 1, 0, 0), (13, .iadd, 0, 0), (14, .putfield 46, 3, 9), (17, .goto 38, 0, 0), (20, .aload_n 0, 0, 0), (21, .dup, 0, 0), (22, .getfield 49, 3, 10), (25, .aload_n 0, 0, 0), (26, .getfield 11, 3, 0), (29, .aload_n 1, 0, 0), (30, .getfield 134, 1, 1), (33, .aaload, 0, 0), (34, .aload_n 1, 0, 0), (35, .getfield 152, 1, 4), (38, .invokevirtual 141, 8, 0), (41, .iadd, 0, 0), (42, .putfield 49, 3, 10), (45, .aload_n 0, 0, 0), (46, .dup, 0, 0), (47, .getfield 43, 3, 8), (50, .iconst 1, 0, 0), (51, .iadd, 0, 0), (52, .putfield 43, 3, 8), (55, .return_, 0, 0)]
def K51 : List Ent := [(0, .iload_n 1, 0, 0), (1, .istore_n 2, 0, 0), (2, .iload_n 2, 0, 0), (3, .aload_n 0, 0, 0), (4, .getfield 37, 3, 6), (7, .if_icmp .ge 39, 0, 0), (10, .aload_n 0, 0, 0), (11, .getfield 33, 3, 5), (14, .iload_n 2, 0, 0), (15, .iload_n 1, 0, 0), (16, .isub, 0, 0), (17, .aaload, 0, 0), (18, .astore_n 3, 0, 0), (19, .aload_n 0, 0, 0), (20, .getfield 33, 3, 5), (23, .iload_n 2, 0, 0), (24, .iload_n 1, 0, 0), (25, .isub, 0, 0), (26, .aload_n 0, 0, 0), (27, .getfield 33, 3, 5), (30, .iload_n 2, 0, 0), (31, .aaload, 0, 0), (32, .aastore, 0, 0), (33, .aload_n 0, 0, 0), (34, .getfield 33, 3, 5), (37, .iload_n 2, 0, 0), (38, .aload_n 3, 0, 0), (39, .aastore, 0, 0), (40, .iinc 2 1, 0, 0), (43, .goto (-41), 0, 0), (46, .aload_n 0, 0, 0), (47, .dup, 0, 0), (48, .getfield 37, 3, 6), (51, .iload_n 1, 0, 0), (52, .isub, 0, 0), (53, .putfield 37, 3, 6), (56, .return_, 0, 0)]
def K52 : List Ent := [(0, .iconst 0, 0, 0), (1, .istore_n 1, 0, 0), (2, .aload_n 0, 0, 0), (3, .iconst 5, 0, 0), (4, .invokevirtual 166, 53, 0), (7, .istore_n 2, 0, 0), (8, .iload_n 1, 0, 0), (9, .sipush 1000, 0, 0), (12, .if_icmp .ge 45, 0, 0), (15, .aload_n 0, 0, 0), (16, .iload_n 2, 0, 0), (17, .invokevirtual 169, 35, 0), (20, .aload_n 0, 0, 0), (21, .getfield 17, 3, 1), (24, .if_icmp .eq 33, 0, 0), (27, .aload_n 0, 0, 0), (28, .iload_n 2, 0, 0), (29, .invokevirtual 166, 53, 0), (32, .istore_n 3, 0, 0), (33, .aload_n 0, 0, 0), (34, .getfield 11, 3, 0), (37, .iload_n 2, 0, 0), (38, .aaload, 0, 0), (39, .aload_n 0, 0, 0), (40, .getfield 11, 3, 0), (43, .iload_n 3, 0, 0), (44, .aaload, 0, 0), (45, .invokevirtual 141, 8, 0), (48, .pop, 0, 0), (49, .iload_n 3, 0, 0), (50, .istore_n 2, 0, 0), (51, .iinc 1 1, 0, 0), (54, .goto (-46), 0, 0), (57, .iload_n 1, 0, 0), (58, .ireturn, 0, 0)]
def K53 : List Ent := [(0, .iconst 1, 0, 0), (1, .istore_n 2, 0, 0), (2, .iload_n 2, 0, 0), (3, .bipush 6, 0, 0), (5, .if_icmp .gt 26, 0, 0), (8, .iload_n 1, 0, 0), (9, .iload_n 2, 0, 0), (10, .iadd, 0, 0), (11, .bipush 6, 0, 0), (13, .irem, 0, 0), (14, .istore_n 3, 0, 0), (15, .aload_n 0, 0, 0), (16, .iload_n 3, 0, 0), (17, .invokevirtual 88, 27, 0), (20, .ifCond .eq 5, 0, 0), (23, .iload_n 3, 0, 0), (24, .ireturn, 0, 0), (25, .iinc 2 1, 0, 0), (28, .goto (-26), 0, 0), (31, .iload_n 1, 0, 0), (32, .ireturn, 0, 0)]
def K54 : List Ent := [(0, .aload_n 0, 0, 0), (1, .invokespecial 1, 1001, 0), (4, .aload_n 0, 0, 0), (5, .new 7, 3, 0), (8, .dup, 0, 0), (9, .invokespecial 9, 25, 0), (12, .putfield 10, 4, 0), (15, .aload_n 0, 0, 0), (16, .new 7, 3, 0), (19, .dup, 0, 0), (20, .invokespecial 9, 25, 0), (23, .putfield 16, 4, 1), (26, .aload_n 0, 0, 0), (27, .iconst 4, 0, 0), (28, .anewarray 7, 3, 0), (31, .putfield 19, 4, 2), (34, .aload_n 0, 0, 0), (35, .iconst 0, 0, 0), (36, .putfield 23, 4, 3), (39, .aload_n 0, 0, 0), (40, .new 27, 0, 0), (43, .dup, 0, 0), (44, .invokespecial 29, 0, 1), (47, .putfield 30, 4, 4), (50, .aload_n 0, 0, 0), (51, .new 34, 2, 0), (54, .dup, 0, 0), (55, .invokespecial 36, 16, 1), (58, .putfield 37, 4, 5), (61, .iconst 0, 0, 0), (62, .istore_n 1, 0, 0), (63, .iload_n 1, 0, 0), (64, .iconst 4, 0, 0), (65, .if_icmp .ge 22, 0, 0), (68, .aload_n 0, 0, 0), (69, .getfield 19, 4, 2), (72, .iload_n 1, 0, 0), (73, .new 7, 3, 0), (76, .dup, 0, 0), (77, .invokespecial 9, 25, 0), (80, .aastore, 0, 0), (81, .iinc 1 1, 0, 0), (84, .goto (-21), 0, 0), (87, .return_, 0, 0)]
def K55 : List Ent := [(0, .aload_n 0, 0, 0), (1, .aload_n 0, 0, 0), (2, .invokevirtual 41, 81, 0), (5, .iload_n 1, 0, 0), (6, .invokevirtual 45, 39, 0), (9, .invokevirtual 49, 82, 0), (12, .ireturn, 0, 0)]
def K56 : List Ent := [(0, .aload_n 0, 0, 0), (1, .aload_n 0, 0, 0), (2, .invokevirtual 41, 81, 0), (5, .iload_n 1, 0, 0), (6, .iload_n 2, 0, 0), (7, .invokevirtual 52, 40, 0), (10, .invokevirtual 49, 82, 0), (13, .ireturn, 0, 0)]
def K57 : List Ent := [(0, .aload_n 0, 0, 0), (1, .aload_n 0, 0, 0), (2, .invokevirtual 41, 81, 0), (5, .iload_n 1, 0, 0), (6, .iload_n 2, 0, 0), (7, .invokevirtual 56, 41, 0), (10, .invokevirtual 49, 82, 0), (13, .ireturn, 0, 0)]
def K58 : List Ent := [(0, .aload_n 0, 0, 0), (1, .aload_n 0, 0, 0), (2, .invokevirtual 41, 81, 0), (5, .iload_n 1, 0, 0), (6, .iload_n 2, 0, 0), (7, .invokevirtual 59, 42, 0), (10, .invokevirtual 49, 82, 0), (13, .ireturn, 0, 0)]
def K59 : List Ent := [(0, .aload_n 0, 0, 0), (1, .aload_n 0, 0, 0), (2, .invokevirtual 41, 81, 0), (5, .iload_n 1, 0, 0), (6, .iload_n 2, 0, 0), (7, .invokevirtual 62, 43, 0), (10, .invokevirtual 49, 82, 0), (13, .ireturn, 0, 0)]
def K60 : List Ent := [(0, .aload_n 0, 0, 0), (1, .aload_n 0, 0, 0), (2, .invokevirtual 41, 81, 0), (5, .iload_n 1, 0, 0), (6, .invokevirtual 65, 44, 0), (9, .invokevirtual 49, 82, 0), (12, .ireturn, 0, 0)]
def K61 : List Ent := [(0, .aload_n 0, 0, 0), (1, .aload_n 0, 0, 0), (2, .invokevirtual 41, 81, 0), (5, .iload_n 1, 0, 0), (6, .invokevirtual 68, 45, 0), (9, .invokevirtual 49, 82, 0), (12, .ireturn, 0, 0)]
def K62 : List Ent := [(0, .aload_n 0, 0, 0), (1, .aload_n 0, 0, 0), (2, .invokevirtual 41, 81, 0), (5, .iload_n 1, 0, 0), (6, .iload_n 2, 0, 0), (7, .invokevirtual 71, 46, 0), (10, .invokevirtual 49, 82, 0), (13, .ireturn, 0, 0)]
def K63 : List Ent := [(0, .aload_n 0, 0, 0), (1, .aload_n 0, 0, 0), (2, .invokevirtual 41, 81, 0), (5, .iload_n 1, 0, 0), (6, .iload_n 2, 0, 0), (7, .iload_n 3, 0, 0), (8, .invokevirtual 74, 47, 0), (11, .invokevirtual 49, 82, 0), (14, .ireturn, 0, 0)]
def K64 : List Ent := [(0, .aload_n 0, 0, 0), (1, .aload_n 0, 0, 0), (2, .invokevirtual 41, 81, 0), (5, .iload_n 1, 0, 0), (6, .invokevirtual 78, 49, 0), (9, .invokevirtual 49, 82, 0), (12, .ireturn, 0, 0)]
def K65 : List Ent := [(0, .aload_n 0, 0, 0), (1, .getfield 10, 4, 0), (4, .iload_n 1, 0, 0), (5, .invokevirtual 81, 27, 0), (8, .ifCond .ne 6, 0, 0), (11, .ldc 85, 0, -2000000001), (13, .ireturn, 0, 0), (14, .aload_n 0, 0, 0), (15, .getfield 10, 4, 0), (18, .getfield 86, 3, 0), (21, .iload_n 1, 0, 0), (22, .aaload, 0, 0), (23, .astore_n 3, 0, 0), (24, .iload_n 2, 0, 0), (25, .tableswitch 101 0 7 #[47, 52, 57, 62, 70, 78, 87, 92], 47, 0), (72, .aload_n 3, 0, 0), (73, .invokevirtual 90, 12, 0), (76, .ireturn, 0, 0), (77, .aload_n 3, 0, 0), (78, .invokevirtual 94, 10, 0), (81, .ireturn, 0, 0), (82, .aload_n 3, 0, 0), (83, .invokevirtual 97, 11, 0), (86, .ireturn, 0, 0), (87, .aload_n 3, 0, 0), (88, .invokevirtual 100, 13, 0), (91, .invokestatic 103, 153, 0), (94, .ireturn, 0, 0), (95, .aload_n 3, 0, 0), (96, .getfield 108, 0, 3), (99, .invokestatic 103, 153, 0), (102, .ireturn, 0, 0), (103, .aload_n 0, 0, 0), (104, .getfield 10, 4, 0), (107, .iload_n 1, 0, 0), (108, .invokevirtual 111, 34, 0), (111, .ireturn, 0, 0), (112, .aload_n 3, 0, 0), (113, .invokevirtual 100, 13, 0), (116, .ireturn, 0, 0), (117, .aload_n 0, 0, 0), (118, .getfield 10, 4, 0), (121, .iload_n 1, 0, 0), (122, .invokevirtual 114, 35, 0), (125, .ireturn, 0, 0), (126, .ldc 85, 0, -2000000001), (128, .ireturn, 0, 0)]
def K66 : List Ent := [(0, .aload_n 0, 0, 0), (1, .getfield 10, 4, 0), (4, .iload_n 1, 0, 0), (5, .invokevirtual 81, 27, 0), (8, .ifCond .eq 23, 0, 0), (11, .aload_n 0, 0, 0), (12, .getfield 10, 4, 0), (15, .iload_n 2, 0, 0), (16, .invokevirtual 117, 28, 0), (19, .ifCond .eq 12, 0, 0), (22, .iload_n 3, 0, 0), (23, .iconst 0, 0, 0), (24, .iconst 2, 0, 0), (25, .invokestatic 120, 85, 0), (28, .ifCond .ne 6, 0, 0), (31, .ldc 85, 0, -2000000001), (33, .ireturn, 0, 0), (34, .aload_n 0, 0, 0), (35, .getfield 10, 4, 0), (38, .getfield 86, 3, 0), (41, .iload_n 1, 0, 0), (42, .aaload, 0, 0), (43, .astore 4, 0, 0), (45, .aload 4, 0, 0), (47, .iload_n 2, 0, 0), (48, .invokevirtual 124, 4, 0), (51, .ifCond .ne 6, 0, 0), (54, .ldc 127, 0, -2000000004), (56, .ireturn, 0, 0), (57, .iload_n 3, 0, 0), (58, .lookupswitch 42 #[(0, 26), (1, 34)], 26, 0), (84, .aload 4, 0, 0), (86, .getfield 128, 0, 0), (89, .iload_n 2, 0, 0), (90, .iaload, 0, 0), (91, .ireturn, 0, 0), (92, .aload 4, 0, 0), (94, .getfield 132, 0, 1), (97, .iload_n 2, 0, 0), (98, .iaload, 0, 0), (99, .ireturn, 0, 0), (100, .aload 4, 0, 0), (102, .getfield 135, 0, 2), (105, .iload_n 2, 0, 0), (106, .iaload, 0, 0), (107, .ireturn, 0, 0)]
def K67 : List Ent := [(0, .aload_n 0, 0, 0), (1, .getfield 10, 4, 0), (4, .iload_n 1, 0, 0), (5, .invokevirtual 117, 28, 0), (8, .ifCond .ne 6, 0, 0), (11, .ldc 85, 0, -2000000001), (13, .ireturn, 0, 0), (14, .aload_n 0, 0, 0), (15, .getfield 10, 4, 0), (18, .iload_n 1, 0, 0), (19, .invokevirtual 138, 29, 0), (22, .istore_n 3, 0, 0), (23, .iload_n 2, 0, 0), (24, .tableswitch 119 0 4 #[36, 55, 73, 92, 110], 36, 0), (60, .iload_n 3, 0, 0), (61, .ifCond .eq 8, 0, 0), (64, .ldc 127, 0, -2000000004), (66, .goto 12, 0, 0), (69, .aload_n 0, 0, 0), (70, .getfield 10, 4, 0), (73, .getfield 141, 3, 2), (76, .iload_n 1, 0, 0), (77, .iaload, 0, 0), (78, .ireturn, 0, 0), (79, .iload_n 3, 0, 0), (80, .ifCond .eq 8, 0, 0), (83, .ldc 127, 0, -2000000004), (85, .goto 11, 0, 0), (88, .aload_n 0, 0, 0), (89, .getfield 10, 4, 0), (92, .iload_n 1, 0, 0), (93, .invokevirtual 144, 33, 0), (96, .ireturn, 0, 0), (97, .iload_n 3, 0, 0), (98, .ifCond .eq 15, 0, 0), (101, .aload_n 0, 0, 0), (102, .getfield 10, 4, 0), (105, .getfield 147, 3, 3), (108, .iload_n 1, 0, 0), (109, .iaload, 0, 0), (110, .goto 5, 0, 0), (113, .ldc 127, 0, -2000000004), (115, .ireturn, 0, 0), (116, .iload_n 3, 0, 0), (117, .ifCond .eq 8, 0, 0), (120, .ldc 127, 0, -2000000004), (122, .goto 11, 0, 0), (125, .aload_n 0, 0, 0), (126, .getfield 10, 4, 0), (129, .iload_n 1, 0, 0), (130, .invokevirtual 150, 36, 0), (133, .ireturn, 0, 0), (134, .aload_n 0, 0, 0), (135, .getfield 10, 4, 0), (138, .iload_n 1, 0, 0), (139, .invokevirtual 153, 37, 0), (142, .ireturn, 0, 0), (143, .ldc 85, 0, -2000000001), (145, .ireturn, 0, 0)]
def K68 : List Ent := [(0, .iload_n 1, 0, 0), (1, .ifCond .lt 12, 0, 0), (4, .iload_n 2, 0, 0), (5, .iconst 0, 0, 0), (6, .iconst 4, 0, 0), (7, .invokestatic 120, 85, 0), (10, .ifCond .ne 6, 0, 0), (13, .ldc 85, 0, -2000000001), (15, .ireturn, 0, 0), (16, .iload_n 1, 0, 0), (17, .aload_n 0, 0, 0), (18, .getfield 10, 4, 0), (21, .getfield 156, 3, 6), (24, .if_icmp .lt 6, 0, 0), (27, .ldc 127, 0, -2000000004), (29, .ireturn, 0, 0), (30, .aload_n 0, 0, 0), (31, .getfield 10, 4, 0), (34, .getfield 159, 3, 5), (37, .iload_n 1, 0, 0), (38, .aaload, 0, 0), (39, .astore_n 3, 0, 0), (40, .iload_n 2, 0, 0), (41, .tableswitch 62 0 3 #[31, 36, 41, 54], 31, 0), (72, .aload_n 3, 0, 0), (73, .getfield 163, 1, 0), (76, .ireturn, 0, 0), (77, .aload_n 3, 0, 0), (78, .getfield 168, 1, 1), (81, .ireturn, 0, 0), (82, .aload_n 3, 0, 0), (83, .getfield 171, 1, 2), (86, .aload_n 0, 0, 0), (87, .getfield 10, 4, 0), (90, .getfield 174, 3, 7), (93, .isub, 0, 0), (94, .ireturn, 0, 0), (95, .aload_n 3, 0, 0), (96, .getfield 177, 1, 4), (99, .invokevirtual 90, 12, 0), (102, .ireturn, 0, 0), (103, .aload_n 3, 0, 0), (104, .getfield 180, 1, 3), (107, .ifCond .eq 7, 0, 0), (110, .iconst 1, 0, 0), (111, .goto 4, 0, 0), (114, .iconst 0, 0, 0), (115, .ireturn, 0, 0)]
def K69 : List Ent := [(0, .aload_n 0, 0, 0), (1, .getfield 10, 4, 0), (4, .iload_n 1, 0, 0), (5, .invokevirtual 81, 27, 0), (8, .ifCond .eq 19, 0, 0), (11, .aload_n 0, 0, 0), (12, .getfield 10, 4, 0), (15, .iload_n 2, 0, 0), (16, .invokevirtual 81, 27, 0), (19, .ifCond .eq 8, 0, 0), (22, .iload_n 1, 0, 0), (23, .iload_n 2, 0, 0), (24, .if_icmp .ne 6, 0, 0), (27, .ldc 85, 0, -2000000001), (29, .ireturn, 0, 0), (30, .aload_n 0, 0, 0), (31, .iload_n 1, 0, 0), (32, .iload_n 2, 0, 0), (33, .invokevirtual 184, 83, 0), (36, .istore 4, 0, 0), (38, .iload_n 3, 0, 0), (39, .tableswitch 74 0 2 #[25, 28, 49], 25, 0), (64, .iload 4, 0, 0), (66, .ireturn, 0, 0), (67, .aload_n 0, 0, 0), (68, .getfield 30, 4, 4), (71, .invokevirtual 90, 12, 0), (74, .aload_n 0, 0, 0), (75, .getfield 10, 4, 0), (78, .getfield 86, 3, 0), (81, .iload_n 1, 0, 0), (82, .aaload, 0, 0), (83, .invokevirtual 90, 12, 0), (86, .isub, 0, 0), (87, .ireturn, 0, 0), (88, .aload_n 0, 0, 0), (89, .getfield 30, 4, 4), (92, .aload_n 0, 0, 0), (93, .getfield 10, 4, 0), (96, .getfield 86, 3, 0), (99, .iload_n 2, 0, 0), (100, .aaload, 0, 0), (101, .invokevirtual 187, 9, 0), (104, .ifCond .eq 7, 0, 0), (107, .iconst 1, 0, 0), (108, .goto 4, 0, 0), (111, .iconst 0, 0, 0), (112, .ireturn, 0, 0), (113, .ldc 85, 0, -2000000001), (115, .ireturn, 0, 0)]
def K70 : List Ent := [(0, .aload_n 0, 0, 0), (1, .getfield 30, 4, 4), (4, .invokevirtual 191, 2, 0), (7, .iconst 0, 0, 0), (8, .istore_n 1, 0, 0), (9, .iload_n 1, 0, 0), (10, .bipush 6, 0, 0), (12, .if_icmp .ge 37, 0, 0), (15, .aload_n 0, 0, 0), (16, .getfield 10, 4, 0), (19, .iload_n 1, 0, 0), (20, .invokevirtual 81, 27, 0), (23, .ifCond .eq 20, 0, 0), (26, .aload_n 0, 0, 0), (27, .getfield 30, 4, 4), (30, .aload_n 0, 0, 0), (31, .getfield 10, 4, 0), (34, .getfield 86, 3, 0), (37, .iload_n 1, 0, 0), (38, .aaload, 0, 0), (39, .invokevirtual 194, 8, 0), (42, .pop, 0, 0), (43, .iinc 1 1, 0, 0), (46, .goto (-37), 0, 0), (49, .aload_n 0, 0, 0), (50, .getfield 30, 4, 4), (53, .invokevirtual 90, 12, 0), (56, .ireturn, 0, 0)]
def K71 : List Ent := [(0, .iconst 0, 0, 0), (1, .istore_n 1, 0, 0), (2, .iconst 0, 0, 0), (3, .istore_n 2, 0, 0), (4, .iload_n 2, 0, 0), (5, .aload_n 0, 0, 0), (6, .getfield 10, 4, 0), (9, .getfield 198, 3, 4), (12, .if_icmp .ge 20, 0, 0), (15, .iload_n 1, 0, 0), (16, .aload_n 0, 0, 0), (17, .getfield 10, 4, 0), (20, .iload_n 2, 0, 0), (21, .invokevirtual 201, 38, 0), (24, .iadd, 0, 0), (25, .istore_n 1, 0, 0), (26, .iinc 2 1, 0, 0), (29, .goto (-25), 0, 0), (32, .iload_n 1, 0, 0), (33, .ireturn, 0, 0)]
def K72 : List Ent := [(0, .aload_n 0, 0, 0), (1, .invokevirtual 41, 81, 0), (4, .invokevirtual 204, 52, 0), (7, .ireturn, 0, 0)]
def K73 : List Ent := [(0, .aload_n 0, 0, 0), (1, .getfield 10, 4, 0), (4, .iload_n 1, 0, 0), (5, .invokevirtual 81, 27, 0), (8, .ifCond .eq 13, 0, 0), (11, .iload_n 2, 0, 0), (12, .iconst 0, 0, 0), (13, .bipush 99, 0, 0), (15, .invokestatic 120, 85, 0), (18, .ifCond .ne 6, 0, 0), (21, .ldc 85, 0, -2000000001), (23, .ireturn, 0, 0), (24, .aload_n 0, 0, 0), (25, .getfield 30, 4, 4), (28, .aload_n 0, 0, 0), (29, .getfield 10, 4, 0), (32, .getfield 86, 3, 0), (35, .iload_n 1, 0, 0), (36, .aaload, 0, 0), (37, .invokevirtual 207, 1, 0), (40, .iconst 0, 0, 0), (41, .istore_n 3, 0, 0), (42, .iload_n 3, 0, 0), (43, .aload_n 0, 0, 0), (44, .getfield 10, 4, 0), (47, .getfield 156, 3, 6), (50, .if_icmp .ge 67, 0, 0), (53, .aload_n 0, 0, 0), (54, .getfield 10, 4, 0), (57, .getfield 159, 3, 5), (60, .iload_n 3, 0, 0), (61, .aaload, 0, 0), (62, .astore 4, 0, 0), (64, .aload 4, 0, 0), (66, .getfield 168, 1, 1), (69, .iload_n 1, 0, 0), (70, .if_icmp .ne 41, 0, 0), (73, .aload 4, 0, 0), (75, .getfield 180, 1, 3), (78, .ifCond .ne 33, 0, 0), (81, .aload 4, 0, 0), (83, .getfield 171, 1, 2), (86, .aload_n 0, 0, 0), (87, .getfield 10, 4, 0), (90, .getfield 174, 3, 7), (93, .iload_n 2, 0, 0), (94, .iadd, 0, 0), (95, .if_icmp .gt 16, 0, 0), (98, .aload_n 0, 0, 0), (99, .getfield 30, 4, 4), (102, .aload 4, 0, 0), (104, .getfield 177, 1, 4), (107, .invokevirtual 194, 8, 0), (110, .pop, 0, 0), (111, .iinc 3 1, 0, 0), (114, .goto (-72), 0, 0), (117, .aload_n 0, 0, 0), (118, .getfield 30, 4, 4), (121, .invokevirtual 90, 12, 0), (124, .ireturn, 0, 0)]
def K74 : List Ent := [(0, .iload_n 1, 0, 0), (1, .iconst 0, 0, 0), (2, .iconst 1, 0, 0), (3, .invokestatic 120, 85, 0), (6, .ifCond .ne 6, 0, 0), (9, .ldc 85, 0, -2000000001), (11, .ireturn, 0, 0), (12, .iconst (-1), 0, 0), (13, .istore_n 2, 0, 0), (14, .iconst (-1), 0, 0), (15, .istore_n 3, 0, 0), (16, .iconst 0, 0, 0), (17, .istore 4, 0, 0), (19, .iload 4, 0, 0), (21, .bipush 6, 0, 0), (23, .if_icmp .ge 45, 0, 0), (26, .aload_n 0, 0, 0), (27, .getfield 10, 4, 0), (30, .iload 4, 0, 0), (32, .invokevirtual 81, 27, 0), (35, .ifCond .eq 12, 0, 0), (38, .aload_n 0, 0, 0), (39, .iload 4, 0, 0), (41, .invokevirtual 211, 84, 0), (44, .goto 4, 0, 0), (47, .iconst (-1), 0, 0), (48, .istore 5, 0, 0), (50, .iload 5, 0, 0), (52, .iload_n 3, 0, 0), (53, .if_icmp .le 9, 0, 0), (56, .iload 4, 0, 0), (58, .istore_n 2, 0, 0), (59, .iload 5, 0, 0), (61, .istore_n 3, 0, 0), (62, .iinc 4 1, 0, 0), (65, .goto (-46), 0, 0), (68, .iload_n 1, 0, 0), (69, .ifCond .ne 7, 0, 0), (72, .iload_n 2, 0, 0), (73, .goto 4, 0, 0), (76, .iload_n 3, 0, 0), (77, .ireturn, 0, 0)]
def K75 : List Ent := [(0, .iload_n 1, 0, 0), (1, .tableswitch 144 0 10 #[59, 67, 75, 83, 91, 99, 107, 115, 123, 128, 136], 59, 0), (60, .aload_n 0, 0, 0), (61, .getfield 10, 4, 0), (64, .invokevirtual 214, 30, 0), (67, .ireturn, 0, 0), (68, .aload_n 0, 0, 0), (69, .getfield 10, 4, 0), (72, .getfield 198, 3, 4), (75, .ireturn, 0, 0), (76, .aload_n 0, 0, 0), (77, .getfield 10, 4, 0), (80, .invokevirtual 217, 31, 0), (83, .ireturn, 0, 0), (84, .aload_n 0, 0, 0), (85, .getfield 10, 4, 0), (88, .getfield 156, 3, 6), (91, .ireturn, 0, 0), (92, .aload_n 0, 0, 0), (93, .getfield 10, 4, 0), (96, .getfield 174, 3, 7), (99, .ireturn, 0, 0), (100, .aload_n 0, 0, 0), (101, .getfield 10, 4, 0), (104, .getfield 220, 3, 8), (107, .ireturn, 0, 0), (108, .aload_n 0, 0, 0), (109, .getfield 10, 4, 0), (112, .getfield 223, 3, 9), (115, .ireturn, 0, 0), (116, .aload_n 0, 0, 0), (117, .getfield 10, 4, 0), (120, .getfield 226, 3, 10), (123, .ireturn, 0, 0), (124, .aload_n 0, 0, 0), (125, .getfield 23, 4, 3), (128, .ireturn, 0, 0), (129, .aload_n 0, 0, 0), (130, .getfield 37, 4, 5), (133, .getfield 229, 2, 1), (136, .ireturn, 0, 0), (137, .aload_n 0, 0, 0), (138, .getfield 10, 4, 0), (141, .getfield 232, 3, 1), (144, .ireturn, 0, 0), (145, .ldc 85, 0, -2000000001), (147, .ireturn, 0, 0)]
def K76 : List Ent := [(0, .aload_n 0, 0, 0), (1, .getfield 23, 4, 3), (4, .ifCond .ne 6, 0, 0), (7, .ldc 235, 0, -2000000002), (9, .ireturn, 0, 0), (10, .aload_n 0, 0, 0), (11, .dup, 0, 0), (12, .getfield 23, 4, 3), (15, .iconst 1, 0, 0), (16, .isub, 0, 0), (17, .putfield 23, 4, 3), (20, .aload_n 0, 0, 0), (21, .getfield 19, 4, 2), (24, .aload_n 0, 0, 0), (25, .getfield 23, 4, 3), (28, .aaload, 0, 0), (29, .astore_n 1, 0, 0), (30, .aload_n 0, 0, 0), (31, .getfield 19, 4, 2), (34, .aload_n 0, 0, 0), (35, .getfield 23, 4, 3), (38, .aload_n 0, 0, 0), (39, .getfield 10, 4, 0), (42, .aastore, 0, 0), (43, .aload_n 0, 0, 0), (44, .aload_n 1, 0, 0), (45, .putfield 10, 4, 0), (48, .aload_n 0, 0, 0), (49, .getfield 23, 4, 3), (52, .ireturn, 0, 0)]
def K77 : List Ent := [(0, .iload_n 1, 0, 0), (1, .bipush 32, 0, 0), (3, .bipush 126, 0, 0), (5, .invokestatic 120, 85, 0), (8, .ifCond .ne 6, 0, 0), (11, .ldc 85, 0, -2000000001), (13, .ireturn, 0, 0), (14, .aload_n 0, 0, 0), (15, .getfield 37, 4, 5), (18, .iload_n 1, 0, 0), (19, .invokevirtual 236, 17, 0), (22, .ireturn, 0, 0)]
def K78 : List Ent := [(0, .aload_n 0, 0, 0), (1, .getfield 37, 4, 5), (4, .getfield 229, 2, 1), (7, .istore_n 1, 0, 0), (8, .aload_n 0, 0, 0), (9, .getfield 37, 4, 5), (12, .iconst 0, 0, 0), (13, .putfield 229, 2, 1), (16, .iload_n 1, 0, 0), (17, .ireturn, 0, 0)]
def K79 : List Ent := [(0, .iload_n 1, 0, 0), (1, .iconst 0, 0, 0), (2, .iconst 2, 0, 0), (3, .invokestatic 120, 85, 0), (6, .ifCond .ne 6, 0, 0), (9, .ldc 85, 0, -2000000001), (11, .ireturn, 0, 0), (12, .aload_n 0, 0, 0), (13, .getfield 37, 4, 5), (16, .aload_n 0, 0, 0), (17, .invokevirtual 41, 81, 0), (20, .invokevirtual 239, 18, 0), (23, .aload_n 0, 0, 0), (24, .getfield 37, 4, 5), (27, .getfield 243, 2, 3), (30, .iconst (-1), 0, 0), (31, .if_icmp .ne 6, 0, 0), (34, .ldc 127, 0, -2000000004), (36, .ireturn, 0, 0), (37, .iload_n 1, 0, 0), (38, .lookupswitch 42 #[(0, 26), (1, 34)], 26, 0), (64, .aload_n 0, 0, 0), (65, .getfield 37, 4, 5), (68, .getfield 243, 2, 3), (71, .ireturn, 0, 0), (72, .aload_n 0, 0, 0), (73, .getfield 37, 4, 5), (76, .getfield 246, 2, 4), (79, .ireturn, 0, 0), (80, .aload_n 0, 0, 0), (81, .getfield 37, 4, 5), (84, .getfield 249, 2, 5), (87, .ireturn, 0, 0)]
def K80 : List Ent := [(0, .aload_n 0, 0, 0), (1, .getfield 37, 4, 5), (4, .aload_n 0, 0, 0), (5, .invokevirtual 41, 81, 0), (8, .invokevirtual 239, 18, 0), (11, .aload_n 0, 0, 0), (12, .aload_n 0, 0, 0), (13, .getfield 37, 4, 5), (16, .getfield 243, 2, 3), (19, .iconst (-1), 0, 0), (20, .if_icmp .ne 13, 0, 0), (23, .aload_n 0, 0, 0), (24, .getfield 37, 4, 5), (27, .getfield 252, 2, 2), (30, .goto 5, 0, 0), (33, .ldc 235, 0, -2000000002), (35, .invokevirtual 49, 82, 0), (38, .ireturn, 0, 0)]
def K81 : List Ent := [(0, .aload_n 0, 0, 0), (1, .getfield 16, 4, 1), (4, .aload_n 0, 0, 0), (5, .getfield 10, 4, 0), (8, .invokevirtual 255, 26, 0), (11, .aload_n 0, 0, 0), (12, .getfield 16, 4, 1), (15, .areturn, 0, 0)]
def K82 : List Ent := [(0, .iload_n 1, 0, 0), (1, .invokestatic 257, 86, 0), (4, .ifCond .eq 5, 0, 0), (7, .iload_n 1, 0, 0), (8, .ireturn, 0, 0), (9, .aload_n 0, 0, 0), (10, .getfield 23, 4, 3), (13, .iconst 4, 0, 0), (14, .if_icmp .ge 26, 0, 0), (17, .aload_n 0, 0, 0), (18, .getfield 19, 4, 2), (21, .aload_n 0, 0, 0), (22, .getfield 23, 4, 3), (25, .aaload, 0, 0), (26, .astore_n 2, 0, 0), (27, .aload_n 0, 0, 0), (28, .dup, 0, 0), (29, .getfield 23, 4, 3), (32, .iconst 1, 0, 0), (33, .iadd, 0, 0), (34, .putfield 23, 4, 3), (37, .goto 37, 0, 0), (40, .aload_n 0, 0, 0), (41, .getfield 19, 4, 2), (44, .iconst 0, 0, 0), (45, .aaload, 0, 0), (46, .astore_n 2, 0, 0), (47, .iconst 1, 0, 0), (48, .istore_n 3, 0, 0), (49, .iload_n 3, 0, 0), (50, .iconst 4, 0, 0), (51, .if_icmp .ge 23, 0, 0), (54, .aload_n 0, 0, 0), (55, .getfield 19, 4, 2), (58, .iload_n 3, 0, 0), (59, .iconst 1, 0, 0), (60, .isub, 0, 0), (61, .aload_n 0, 0, 0), (62, .getfield 19, 4, 2), (65, .iload_n 3, 0, 0), (66, .aaload, 0, 0), (67, .aastore, 0, 0), (68, .iinc 3 1, 0, 0), (71, .goto (-22), 0, 0), (74, .aload_n 0, 0, 0), (75, .getfield 19, 4, 2), (78, .aload_n 0, 0, 0), (79, .getfield 23, 4, 3), (82, .iconst 1, 0, 0), (83, .isub, 0, 0), (84, .aload_n 0, 0, 0), (85, .getfield 10, 4, 0), (88, .aastore, 0, 0), (89, .aload_n 0, 0, 0), (90, .aload_n 0, 0, 0), (91, .getfield 16, 4, 1), (94, .putfield 10, 4, 0), (97, .aload_n 0, 0, 0), (98, .aload_n 2, 0, 0), (99, .putfield 16, 4, 1), (102, .iload_n 1, 0, 0), (103, .ireturn, 0, 0)]
def K83 : List Ent := [(0, .aload_n 0, 0, 0), (1, .getfield 30, 4, 4), (4, .aload_n 0, 0, 0), (5, .getfield 10, 4, 0), (8, .getfield 86, 3, 0), (11, .iload_n 1, 0, 0), (12, .aaload, 0, 0), (13, .invokevirtual 207, 1, 0), (16, .aload_n 0, 0, 0), (17, .getfield 30, 4, 4), (20, .aload_n 0, 0, 0), (21, .getfield 10, 4, 0), (24, .getfield 86, 3, 0), (27, .iload_n 2, 0, 0), (28, .aaload, 0, 0), (29, .invokevirtual 194, 8, 0), (32, .ireturn, 0, 0)]
def K84 : List Ent := [(0, .iconst 0, 0, 0), (1, .istore_n 2, 0, 0), (2, .iconst 0, 0, 0), (3, .istore_n 3, 0, 0), (4, .iload_n 3, 0, 0), (5, .bipush 6, 0, 0), (7, .if_icmp .ge 34, 0, 0), (10, .iload_n 3, 0, 0), (11, .iload_n 1, 0, 0), (12, .if_icmp .eq 23, 0, 0), (15, .aload_n 0, 0, 0), (16, .getfield 10, 4, 0), (19, .iload_n 3, 0, 0), (20, .invokevirtual 81, 27, 0), (23, .ifCond .eq 12, 0, 0), (26, .iload_n 2, 0, 0), (27, .aload_n 0, 0, 0), (28, .iload_n 1, 0, 0), (29, .iload_n 3, 0, 0), (30, .invokevirtual 184, 83, 0), (33, .iadd, 0, 0), (34, .istore_n 2, 0, 0), (35, .iinc 3 1, 0, 0), (38, .goto (-34), 0, 0), (41, .iload_n 2, 0, 0), (42, .ireturn, 0, 0)]
def K85 : List Ent := [(0, .iload_n 0, 0, 0), (1, .iload_n 1, 0, 0), (2, .if_icmp .lt 12, 0, 0), (5, .iload_n 0, 0, 0), (6, .iload_n 2, 0, 0), (7, .if_icmp .gt 7, 0, 0), (10, .iconst 1, 0, 0), (11, .goto 4, 0, 0), (14, .iconst 0, 0, 0), (15, .ireturn, 0, 0)]
def K86 : List Ent := [(0, .iload_n 0, 0, 0), (1, .ldc 127, 0, -2000000004), (3, .ldc 85, 0, -2000000001), (5, .invokestatic 120, 85, 0), (8, .ireturn, 0, 0)]
def K87 : List Ent := [(0, .aload_n 0, 0, 0), (1, .invokespecial 1, 1001, 0), (4, .aload_n 0, 0, 0), (5, .sipush 420, 0, 0), (8, .newarray .int, 0, 0), (10, .putfield 7, 5, 0), (13, .aload_n 0, 0, 0), (14, .sipush 1680, 0, 0), (17, .newarray .int, 0, 0), (19, .putfield 13, 5, 1), (22, .aload_n 0, 0, 0), (23, .sipush 420, 0, 0), (26, .newarray .int, 0, 0), (28, .putfield 16, 5, 2), (31, .aload_n 0, 0, 0), (32, .sipush 420, 0, 0), (35, .newarray .int, 0, 0), (37, .putfield 19, 5, 3), (40, .aload_n 0, 0, 0), (41, .bipush 60, 0, 0), (43, .newarray .int, 0, 0), (45, .putfield 22, 5, 6), (48, .aload_n 0, 0, 0), (49, .iconst 3, 0, 0), (50, .newarray .int, 0, 0), (52, .putfield 25, 5, 14), (55, .aload_n 0, 0, 0), (56, .getfield 7, 5, 0), (59, .bipush 8, 0, 0), (61, .iconst 1, 0, 0), (62, .iastore, 0, 0), (63, .aload_n 0, 0, 0), (64, .getfield 7, 5, 0), (67, .bipush 34, 0, 0), (69, .iconst 2, 0, 0), (70, .iastore, 0, 0), (71, .aload_n 0, 0, 0), (72, .getfield 7, 5, 0), (75, .bipush 6, 0, 0), (77, .iconst 2, 0, 0), (78, .iastore, 0, 0), (79, .return_, 0, 0)]
def K88 : List Ent := [(0, .iload_n 0, 0, 0), (1, .iload_n 1, 0, 0), (2, .if_icmp .lt 12, 0, 0), (5, .iload_n 0, 0, 0), (6, .iload_n 2, 0, 0), (7, .if_icmp .gt 7, 0, 0), (10, .iconst 1, 0, 0), (11, .goto 4, 0, 0), (14, .iconst 0, 0, 0), (15, .ireturn, 0, 0)]
def K89 : List Ent := [(0, .iconst 0, 0, 0), (1, .istore_n 2, 0, 0), (2, .iload_n 2, 0, 0), (3, .sipush 420, 0, 0), (6, .if_icmp .ge 15, 0, 0), (9, .aload_n 1, 0, 0), (10, .iload_n 2, 0, 0), (11, .aload_n 0, 0, 0), (12, .iload_n 2, 0, 0), (13, .iaload, 0, 0), (14, .iastore, 0, 0), (15, .iinc 2 1, 0, 0), (18, .goto (-16), 0, 0), (21, .return_, 0, 0)]
def K90 : List Ent := [(0, .aload_n 0, 0, 0), (1, .getfield 28, 5, 5), (4, .ifCond .eq 4, 0, 0), (7, .return_, 0, 0), (8, .aload_n 0, 0, 0), (9, .getfield 32, 5, 4), (12, .iconst 4, 0, 0), (13, .if_icmp .ne 44, 0, 0), (16, .iconst 0, 0, 0), (17, .istore_n 1, 0, 0), (18, .iload_n 1, 0, 0), (19, .sipush 1260, 0, 0), (22, .if_icmp .ge 25, 0, 0), (25, .aload_n 0, 0, 0), (26, .getfield 13, 5, 1), (29, .iload_n 1, 0, 0), (30, .aload_n 0, 0, 0), (31, .getfield 13, 5, 1), (34, .iload_n 1, 0, 0), (35, .sipush 420, 0, 0), (38, .iadd, 0, 0), (39, .iaload, 0, 0), (40, .iastore, 0, 0), (41, .iinc 1 1, 0, 0), (44, .goto (-26), 0, 0), (47, .aload_n 0, 0, 0), (48, .dup, 0, 0), (49, .getfield 32, 5, 4), (52, .iconst 1, 0, 0), (53, .isub, 0, 0), (54, .putfield 32, 5, 4), (57, .iconst 0, 0, 0), (58, .istore_n 1, 0, 0), (59, .iload_n 1, 0, 0), (60, .sipush 420, 0, 0), (63, .if_icmp .ge 30, 0, 0), (66, .aload_n 0, 0, 0), (67, .getfield 13, 5, 1), (70, .sipush 420, 0, 0), (73, .aload_n 0, 0, 0), (74, .getfield 32, 5, 4), (77, .imul, 0, 0), (78, .iload_n 1, 0, 0), (79, .iadd, 0, 0), (80, .aload_n 0, 0, 0), (81, .getfield 7, 5, 0), (84, .iload_n 1, 0, 0), (85, .iaload, 0, 0), (86, .iastore, 0, 0), (87, .iinc 1 1, 0, 0), (90, .goto (-31), 0, 0), (93, .aload_n 0, 0, 0), (94, .dup, 0, 0), (95, .getfield 32, 5, 4), (98, .iconst 1, 0, 0), (99, .iadd, 0, 0), (100, .putfield 32, 5, 4), (103, .return_, 0, 0)]
def K91 : List Ent := [(0, .bipush 8, 0, 0), (2, .bipush 26, 0, 0), (4, .iload_n 0, 0, 0), (5, .imul, 0, 0), (6, .iadd, 0, 0), (7, .iconst 1, 0, 0), (8, .iadd, 0, 0), (9, .ireturn, 0, 0)]
def K92 : List Ent := [(0, .sipush 180, 0, 0), (3, .bipush 30, 0, 0), (5, .iload_n 0, 0, 0), (6, .imul, 0, 0), (7, .iadd, 0, 0), (8, .iconst 5, 0, 0), (9, .iadd, 0, 0), (10, .ireturn, 0, 0)]
def K93 : List Ent := [(0, .iload_n 0, 0, 0), (1, .iconst 1, 0, 0), (2, .iadd, 0, 0), (3, .iconst 3, 0, 0), (4, .iload_n 1, 0, 0), (5, .imul, 0, 0), (6, .iadd, 0, 0), (7, .ireturn, 0, 0)]
def K94 : List Ent := [(0, .iload_n 1, 0, 0), (1, .iconst 0, 0, 0), (2, .iconst 5, 0, 0), (3, .invokestatic 36, 88, 0), (6, .ifCond .eq 22, 0, 0), (9, .aload_n 0, 0, 0), (10, .getfield 7, 5, 0), (13, .bipush 8, 0, 0), (15, .bipush 26, 0, 0), (17, .iload_n 1, 0, 0), (18, .imul, 0, 0), (19, .iadd, 0, 0), (20, .iaload, 0, 0), (21, .ifCond .le 7, 0, 0), (24, .iconst 1, 0, 0), (25, .goto 4, 0, 0), (28, .iconst 0, 0, 0), (29, .ireturn, 0, 0)]
def K95 : List Ent := [(0, .iload_n 1, 0, 0), (1, .ifCond .lt 17, 0, 0), (4, .iload_n 1, 0, 0), (5, .aload_n 0, 0, 0), (6, .getfield 7, 5, 0), (9, .iconst 0, 0, 0), (10, .iaload, 0, 0), (11, .if_icmp .ge 7, 0, 0), (14, .iconst 1, 0, 0), (15, .goto 4, 0, 0), (18, .iconst 0, 0, 0), (19, .ireturn, 0, 0)]
def K96 : List Ent := [(0, .aload_n 0, 0, 0), (1, .getfield 7, 5, 0), (4, .sipush 164, 0, 0), (7, .iconst 2, 0, 0), (8, .iload_n 1, 0, 0), (9, .imul, 0, 0), (10, .iadd, 0, 0), (11, .iload_n 2, 0, 0), (12, .iadd, 0, 0), (13, .iaload, 0, 0), (14, .ireturn, 0, 0)]
def K97 : List Ent := [(0, .aload_n 0, 0, 0), (1, .iload_n 1, 0, 0), (2, .iconst 1, 0, 0), (3, .invokevirtual 40, 96, 0), (6, .ifCond .lt 7, 0, 0), (9, .iconst 1, 0, 0), (10, .goto 4, 0, 0), (13, .iconst 0, 0, 0), (14, .ireturn, 0, 0)]
def K98 : List Ent := [(0, .iconst 0, 0, 0), (1, .istore_n 3, 0, 0), (2, .iconst 0, 0, 0), (3, .istore 4, 0, 0), (5, .iload 4, 0, 0), (7, .bipush 8, 0, 0), (9, .if_icmp .ge 69, 0, 0), (12, .iload_n 1, 0, 0), (13, .iload 4, 0, 0), (15, .invokestatic 44, 93, 0), (18, .istore 5, 0, 0), (20, .iload_n 3, 0, 0), (21, .aload_n 0, 0, 0), (22, .getfield 7, 5, 0), (25, .iload 5, 0, 0), (27, .iaload, 0, 0), (28, .ifCond .ne 7, 0, 0), (31, .iconst 0, 0, 0), (32, .goto 38, 0, 0), (35, .iload_n 2, 0, 0), (36, .ifCond .ne 25, 0, 0), (39, .aload_n 0, 0, 0), (40, .getfield 7, 5, 0), (43, .iload 5, 0, 0), (45, .iconst 1, 0, 0), (46, .iadd, 0, 0), (47, .iaload, 0, 0), (48, .aload_n 0, 0, 0), (49, .getfield 7, 5, 0), (52, .iload 5, 0, 0), (54, .iconst 2, 0, 0), (55, .iadd, 0, 0), (56, .iaload, 0, 0), (57, .isub, 0, 0), (58, .goto 12, 0, 0), (61, .aload_n 0, 0, 0), (62, .getfield 7, 5, 0), (65, .iload 5, 0, 0), (67, .iload_n 2, 0, 0), (68, .iadd, 0, 0), (69, .iaload, 0, 0), (70, .iadd, 0, 0), (71, .istore_n 3, 0, 0), (72, .iinc 4 1, 0, 0), (75, .goto (-70), 0, 0), (78, .iload_n 3, 0, 0), (79, .ireturn, 0, 0)]
def K99 : List Ent := [(0, .iconst 0, 0, 0), (1, .istore_n 1, 0, 0), (2, .iload_n 0, 0, 0), (3, .istore_n 2, 0, 0), (4, .iload_n 2, 0, 0), (5, .ifCond .eq 15, 0, 0), (8, .iinc 1 1, 0, 0), (11, .iload_n 2, 0, 0), (12, .iload_n 2, 0, 0), (13, .iconst 1, 0, 0), (14, .isub, 0, 0), (15, .iand, 0, 0), (16, .istore_n 2, 0, 0), (17, .goto (-13), 0, 0), (20, .iload_n 1, 0, 0), (21, .ireturn, 0, 0)]
def K100 : List Ent := [(0, .iconst 0, 0, 0), (1, .istore_n 1, 0, 0), (2, .iconst 0, 0, 0), (3, .istore_n 2, 0, 0), (4, .iload_n 2, 0, 0), (5, .bipush 6, 0, 0), (7, .if_icmp .ge 27, 0, 0), (10, .iload_n 1, 0, 0), (11, .aload_n 0, 0, 0), (12, .iload_n 2, 0, 0), (13, .invokevirtual 47, 94, 0), (16, .ifCond .eq 9, 0, 0), (19, .iconst 1, 0, 0), (20, .iload_n 2, 0, 0), (21, .ishl, 0, 0), (22, .goto 4, 0, 0), (25, .iconst 0, 0, 0), (26, .ior, 0, 0), (27, .istore_n 1, 0, 0), (28, .iinc 2 1, 0, 0), (31, .goto (-27), 0, 0), (34, .iload_n 1, 0, 0), (35, .ireturn, 0, 0)]
def K101 : List Ent := [(0, .iconst 0, 0, 0), (1, .istore_n 1, 0, 0), (2, .iconst 0, 0, 0), (3, .istore_n 2, 0, 0), (4, .iload_n 2, 0, 0), (5, .aload_n 0, 0, 0), (6, .getfield 7, 5, 0), (9, .iconst 0, 0, 0), (10, .iaload, 0, 0), (11, .if_icmp .ge 25, 0, 0), (14, .iload_n 1, 0, 0), (15, .aload_n 0, 0, 0), (16, .iload_n 2, 0, 0), (17, .invokevirtual 51, 97, 0), (20, .ifCond .eq 7, 0, 0), (23, .iconst 0, 0, 0), (24, .goto 4, 0, 0), (27, .iconst 1, 0, 0), (28, .iadd, 0, 0), (29, .istore_n 1, 0, 0), (30, .iinc 2 1, 0, 0), (33, .goto (-29), 0, 0), (36, .iload_n 1, 0, 0), (37, .ireturn, 0, 0)]
def K102_0 : List Ent := [(0, .aload_n 0, 0, 0), (1, .getfield 7, 5, 0), (4, .iload_n 1, 0, 0), (5, .iaload, 0, 0), (6, .aload_n 0, 0, 0), (7, .getfield 7, 5, 0), (10, .iload_n 2, 0, 0), (11, .iaload, 0, 0), (12, .ior, 0, 0), (13, .istore_n 3, 0, 0), (14, .iconst 0, 0, 0), (15, .istore 4, 0, 0), (17, .iconst 0, 0, 0), (18, .istore 5, 0, 0), (20, .iload 5, 0, 0), (22, .bipush 8, 0, 0), (24, .if_icmp .ge 134, 0, 0), (27, .iload_n 1, 0, 0), (28, .iload 5, 0, 0), (30, .invokestatic 44, 93, 0), (33, .istore 6, 0, 0), (35, .iload_n 2, 0, 0), (36, .iload 5, 0, 0), (38, .invokestatic 44, 93, 0), (41, .istore 7, 0, 0), (43, .aload_n 0, 0, 0), (44, .getfield 7, 5, 0), (47, .iload 6, 0, 0), (49, .iaload, 0, 0), (50, .istore 8, 0, 0), (52, .aload_n 0, 0, 0), (53, .getfield 7, 5, 0), (56, .iload 7, 0, 0), (58, .iaload, 0, 0), (59, .iload 8, 0, 0), (61, .if_icmp .le 53, 0, 0), (64, .aload_n 0, 0, 0), (65, .getfield 7, 5, 0), (68, .iload 6, 0, 0), (70, .aload_n 0, 0, 0)]
def K102_1 : List Ent := [(71, .getfield 7, 5, 0), (74, .iload 7, 0, 0), (76, .iaload, 0, 0), (77, .iastore, 0, 0), (78, .aload_n 0, 0, 0), (79, .getfield 7, 5, 0), (82, .iload 6, 0, 0), (84, .iconst 1, 0, 0), (85, .iadd, 0, 0), (86, .aload_n 0, 0, 0), (87, .getfield 7, 5, 0), (90, .iload 7, 0, 0), (92, .iconst 1, 0, 0), (93, .iadd, 0, 0), (94, .iaload, 0, 0), (95, .iastore, 0, 0), (96, .aload_n 0, 0, 0), (97, .getfield 7, 5, 0), (100, .iload 6, 0, 0), (102, .iconst 2, 0, 0), (103, .iadd, 0, 0), (104, .aload_n 0, 0, 0), (105, .getfield 7, 5, 0), (108, .iload 7, 0, 0), (110, .iconst 2, 0, 0), (111, .iadd, 0, 0), (112, .iaload, 0, 0), (113, .iastore, 0, 0), (114, .iload_n 3, 0, 0), (115, .iload 5, 0, 0), (117, .ishr, 0, 0), (118, .iconst 1, 0, 0), (119, .iand, 0, 0), (120, .iconst 1, 0, 0), (121, .if_icmp .ne 9, 0, 0), (124, .aload_n 0, 0, 0), (125, .iload 6, 0, 0), (127, .invokevirtual 54, 103, 0), (130, .iload 4, 0, 0), (132, .aload_n 0, 0, 0)]
def K102_2 : List Ent := [(133, .getfield 7, 5, 0), (136, .iload 6, 0, 0), (138, .iaload, 0, 0), (139, .iload 8, 0, 0), (141, .if_icmp .eq 7, 0, 0), (144, .iconst 1, 0, 0), (145, .goto 4, 0, 0), (148, .iconst 0, 0, 0), (149, .iadd, 0, 0), (150, .istore 4, 0, 0), (152, .iinc 5 1, 0, 0), (155, .goto (-135), 0, 0), (158, .aload_n 0, 0, 0), (159, .getfield 7, 5, 0), (162, .iload_n 1, 0, 0), (163, .iload_n 3, 0, 0), (164, .iastore, 0, 0), (165, .iload 4, 0, 0), (167, .ireturn, 0, 0)]
def K102 : List Ent := K102_0 ++ (K102_1 ++ (K102_2))
def K103 : List Ent := [(0, .aload_n 0, 0, 0), (1, .getfield 7, 5, 0), (4, .iload_n 1, 0, 0), (5, .iconst 0, 0, 0), (6, .iastore, 0, 0), (7, .aload_n 0, 0, 0), (8, .getfield 7, 5, 0), (11, .iload_n 1, 0, 0), (12, .iconst 1, 0, 0), (13, .iadd, 0, 0), (14, .iconst 0, 0, 0), (15, .iastore, 0, 0), (16, .aload_n 0, 0, 0), (17, .getfield 7, 5, 0), (20, .iload_n 1, 0, 0), (21, .iconst 2, 0, 0), (22, .iadd, 0, 0), (23, .iconst 0, 0, 0), (24, .iastore, 0, 0), (25, .return_, 0, 0)]
def K104 : List Ent := [(0, .aload_n 0, 0, 0), (1, .getfield 7, 5, 0), (4, .iload_n 1, 0, 0), (5, .iaload, 0, 0), (6, .aload_n 0, 0, 0), (7, .getfield 7, 5, 0), (10, .iload_n 2, 0, 0), (11, .iaload, 0, 0), (12, .if_icmp .ne 7, 0, 0), (15, .iconst 1, 0, 0), (16, .goto 4, 0, 0), (19, .iconst 0, 0, 0), (20, .istore_n 3, 0, 0), (21, .iconst 0, 0, 0), (22, .istore 4, 0, 0), (24, .iload 4, 0, 0), (26, .bipush 8, 0, 0), (28, .if_icmp .ge 44, 0, 0), (31, .iload_n 3, 0, 0), (32, .ifCond .eq 32, 0, 0), (35, .aload_n 0, 0, 0), (36, .getfield 7, 5, 0), (39, .iload_n 1, 0, 0), (40, .iload 4, 0, 0), (42, .invokestatic 44, 93, 0), (45, .iaload, 0, 0), (46, .aload_n 0, 0, 0), (47, .getfield 7, 5, 0), (50, .iload_n 2, 0, 0), (51, .iload 4, 0, 0), (53, .invokestatic 44, 93, 0), (56, .iaload, 0, 0), (57, .if_icmp .ne 7, 0, 0), (60, .iconst 1, 0, 0), (61, .goto 4, 0, 0), (64, .iconst 0, 0, 0), (65, .istore_n 3, 0, 0), (66, .iinc 4 1, 0, 0), (69, .goto (-45), 0, 0), (72, .iload_n 3, 0, 0), (73, .ireturn, 0, 0)]
def K105 : List Ent := [(0, .aload_n 0, 0, 0), (1, .iload_n 1, 0, 0), (2, .invokevirtual 47, 94, 0), (5, .ifCond .ne 6, 0, 0), (8, .ldc 58, 0, -2000000001), (10, .ireturn, 0, 0), (11, .aload_n 0, 0, 0), (12, .getfield 7, 5, 0), (15, .iconst 0, 0, 0), (16, .iaload, 0, 0), (17, .istore_n 2, 0, 0), (18, .iload_n 2, 0, 0), (19, .bipush 8, 0, 0), (21, .if_icmp .ne 6, 0, 0), (24, .ldc 59, 0, -2000000003), (26, .ireturn, 0, 0), (27, .aload_n 0, 0, 0), (28, .invokevirtual 60, 90, 0), (31, .aload_n 0, 0, 0), (32, .getfield 7, 5, 0), (35, .sipush 164, 0, 0), (38, .iconst 2, 0, 0), (39, .iload_n 2, 0, 0), (40, .imul, 0, 0), (41, .iadd, 0, 0), (42, .iconst 0, 0, 0), (43, .iadd, 0, 0), (44, .iload_n 1, 0, 0), (45, .iastore, 0, 0), (46, .aload_n 0, 0, 0), (47, .getfield 7, 5, 0), (50, .sipush 164, 0, 0), (53, .iconst 2, 0, 0), (54, .iload_n 2, 0, 0), (55, .imul, 0, 0), (56, .iadd, 0, 0), (57, .iconst 1, 0, 0), (58, .iadd, 0, 0), (59, .iconst (-1), 0, 0), (60, .iastore, 0, 0), (61, .aload_n 0, 0, 0), (62, .getfield 7, 5, 0), (65, .iload_n 1, 0, 0), (66, .invokestatic 63, 91, 0), (69, .iload_n 2, 0, 0), (70, .invokestatic 44, 93, 0), (73, .iconst 1, 0, 0), (74, .iastore, 0, 0), (75, .aload_n 0, 0, 0), (76, .getfield 7, 5, 0), (79, .iconst 0, 0, 0), (80, .dup2, 0, 0), (81, .iaload, 0, 0), (82, .iconst 1, 0, 0), (83, .iadd, 0, 0), (84, .iastore, 0, 0), (85, .iload_n 2, 0, 0), (86, .ireturn, 0, 0)]
def K106 : List Ent := [(0, .aload_n 0, 0, 0), (1, .iload_n 1, 0, 0), (2, .iconst 0, 0, 0), (3, .invokevirtual 40, 96, 0), (6, .invokestatic 63, 91, 0), (9, .iload_n 1, 0, 0), (10, .invokestatic 44, 93, 0), (13, .ireturn, 0, 0)]
def K107 : List Ent := [(0, .aload_n 0, 0, 0), (1, .invokevirtual 60, 90, 0), (4, .aload_n 0, 0, 0), (5, .iload_n 1, 0, 0), (6, .invokevirtual 67, 106, 0), (9, .istore 4, 0, 0), (11, .aload_n 0, 0, 0), (12, .getfield 7, 5, 0), (15, .iload 4, 0, 0), (17, .dup2, 0, 0), (18, .iaload, 0, 0), (19, .iconst 1, 0, 0), (20, .iadd, 0, 0), (21, .iastore, 0, 0), (22, .aload_n 0, 0, 0), (23, .getfield 7, 5, 0), (26, .iload 4, 0, 0), (28, .iconst 1, 0, 0), (29, .iadd, 0, 0), (30, .dup2, 0, 0), (31, .iaload, 0, 0), (32, .iload_n 2, 0, 0), (33, .iadd, 0, 0), (34, .iastore, 0, 0), (35, .aload_n 0, 0, 0), (36, .getfield 7, 5, 0), (39, .iload 4, 0, 0), (41, .iconst 2, 0, 0), (42, .iadd, 0, 0), (43, .dup2, 0, 0), (44, .iaload, 0, 0), (45, .iload_n 3, 0, 0), (46, .iadd, 0, 0), (47, .iastore, 0, 0), (48, .aload_n 0, 0, 0), (49, .aload_n 0, 0, 0), (50, .iload_n 1, 0, 0), (51, .iconst 0, 0, 0), (52, .invokevirtual 40, 96, 0), (55, .invokestatic 63, 91, 0), (58, .iconst 0, 0, 0), (59, .invokevirtual 70, 98, 0), (62, .ireturn, 0, 0)]
def K108 : List Ent := [(0, .aload_n 0, 0, 0), (1, .iload_n 1, 0, 0), (2, .invokevirtual 73, 95, 0), (5, .ifCond .eq 14, 0, 0), (8, .iload_n 2, 0, 0), (9, .iconst 1, 0, 0), (10, .sipush 999, 0, 0), (13, .invokestatic 36, 88, 0), (16, .ifCond .ne 6, 0, 0), (19, .ldc 58, 0, -2000000001), (21, .ireturn, 0, 0), (22, .aload_n 0, 0, 0), (23, .iload_n 1, 0, 0), (24, .invokevirtual 51, 97, 0), (27, .ifCond .eq 8, 0, 0), (30, .ldc 76, 0, -2000000002), (32, .goto 10, 0, 0), (35, .aload_n 0, 0, 0), (36, .iload_n 1, 0, 0), (37, .iload_n 2, 0, 0), (38, .iconst 0, 0, 0), (39, .invokevirtual 77, 107, 0), (42, .ireturn, 0, 0)]
def K109 : List Ent := [(0, .aload_n 0, 0, 0), (1, .iload_n 1, 0, 0), (2, .invokevirtual 73, 95, 0), (5, .ifCond .eq 14, 0, 0), (8, .iload_n 2, 0, 0), (9, .iconst 1, 0, 0), (10, .sipush 999, 0, 0), (13, .invokestatic 36, 88, 0), (16, .ifCond .ne 6, 0, 0), (19, .ldc 58, 0, -2000000001), (21, .ireturn, 0, 0), (22, .aload_n 0, 0, 0), (23, .iload_n 1, 0, 0), (24, .invokevirtual 51, 97, 0), (27, .ifCond .ne 21, 0, 0), (30, .aload_n 0, 0, 0), (31, .aload_n 0, 0, 0), (32, .iload_n 1, 0, 0), (33, .iconst 0, 0, 0), (34, .invokevirtual 40, 96, 0), (37, .invokestatic 63, 91, 0), (40, .iconst 0, 0, 0), (41, .invokevirtual 70, 98, 0), (44, .iload_n 2, 0, 0), (45, .if_icmp .ge 6, 0, 0), (48, .ldc 76, 0, -2000000002), (50, .ireturn, 0, 0), (51, .aload_n 0, 0, 0), (52, .iload_n 1, 0, 0), (53, .iconst 0, 0, 0), (54, .iload_n 2, 0, 0), (55, .invokevirtual 77, 107, 0), (58, .ireturn, 0, 0)]
def K110_0 : List Ent := [(0, .aload_n 0, 0, 0), (1, .iload_n 1, 0, 0), (2, .invokevirtual 73, 95, 0), (5, .ifCond .eq 16, 0, 0), (8, .aload_n 0, 0, 0), (9, .iload_n 2, 0, 0), (10, .invokevirtual 73, 95, 0), (13, .ifCond .eq 8, 0, 0), (16, .iload_n 1, 0, 0), (17, .iload_n 2, 0, 0), (18, .if_icmp .ne 6, 0, 0), (21, .ldc 58, 0, -2000000001), (23, .ireturn, 0, 0), (24, .aload_n 0, 0, 0), (25, .iload_n 1, 0, 0), (26, .invokevirtual 51, 97, 0), (29, .ifCond .ne 26, 0, 0), (32, .aload_n 0, 0, 0), (33, .iload_n 2, 0, 0), (34, .invokevirtual 51, 97, 0), (37, .ifCond .ne 18, 0, 0), (40, .aload_n 0, 0, 0), (41, .iload_n 1, 0, 0), (42, .iconst 0, 0, 0), (43, .invokevirtual 40, 96, 0), (46, .aload_n 0, 0, 0), (47, .iload_n 2, 0, 0), (48, .iconst 0, 0, 0), (49, .invokevirtual 40, 96, 0), (52, .if_icmp .eq 6, 0, 0), (55, .ldc 76, 0, -2000000002), (57, .ireturn, 0, 0), (58, .aload_n 0, 0, 0), (59, .invokevirtual 60, 90, 0), (62, .aload_n 0, 0, 0), (63, .iload_n 1, 0, 0), (64, .invokevirtual 67, 106, 0), (67, .istore_n 3, 0, 0), (68, .aload_n 0, 0, 0), (69, .iload_n 2, 0, 0)]
def K110_1 : List Ent := [(70, .invokevirtual 67, 106, 0), (73, .istore 4, 0, 0), (75, .aload_n 0, 0, 0), (76, .getfield 7, 5, 0), (79, .iload 4, 0, 0), (81, .dup2, 0, 0), (82, .iaload, 0, 0), (83, .iconst 1, 0, 0), (84, .iadd, 0, 0), (85, .iastore, 0, 0), (86, .aload_n 0, 0, 0), (87, .getfield 7, 5, 0), (90, .iload 4, 0, 0), (92, .iconst 1, 0, 0), (93, .iadd, 0, 0), (94, .dup2, 0, 0), (95, .iaload, 0, 0), (96, .aload_n 0, 0, 0), (97, .getfield 7, 5, 0), (100, .iload_n 3, 0, 0), (101, .iconst 1, 0, 0), (102, .iadd, 0, 0), (103, .iaload, 0, 0), (104, .iadd, 0, 0), (105, .iastore, 0, 0), (106, .aload_n 0, 0, 0), (107, .getfield 7, 5, 0), (110, .iload 4, 0, 0), (112, .iconst 2, 0, 0), (113, .iadd, 0, 0), (114, .dup2, 0, 0), (115, .iaload, 0, 0), (116, .aload_n 0, 0, 0), (117, .getfield 7, 5, 0), (120, .iload_n 3, 0, 0), (121, .iconst 2, 0, 0), (122, .iadd, 0, 0), (123, .iaload, 0, 0), (124, .iadd, 0, 0), (125, .iastore, 0, 0)]
def K110_2 : List Ent := [(126, .aload_n 0, 0, 0), (127, .iload_n 3, 0, 0), (128, .invokevirtual 54, 103, 0), (131, .aload_n 0, 0, 0), (132, .getfield 7, 5, 0), (135, .aload_n 0, 0, 0), (136, .iload_n 1, 0, 0), (137, .iconst 0, 0, 0), (138, .invokevirtual 40, 96, 0), (141, .invokestatic 63, 91, 0), (144, .dup2, 0, 0), (145, .iaload, 0, 0), (146, .iconst 1, 0, 0), (147, .iload_n 1, 0, 0), (148, .ishl, 0, 0), (149, .ior, 0, 0), (150, .iastore, 0, 0), (151, .aload_n 0, 0, 0), (152, .getfield 7, 5, 0), (155, .sipush 164, 0, 0), (158, .iconst 2, 0, 0), (159, .iload_n 1, 0, 0), (160, .imul, 0, 0), (161, .iadd, 0, 0), (162, .iconst 1, 0, 0), (163, .iadd, 0, 0), (164, .iload_n 2, 0, 0), (165, .iastore, 0, 0), (166, .aload_n 0, 0, 0), (167, .invokevirtual 81, 101, 0), (170, .ireturn, 0, 0)]
def K110 : List Ent := K110_0 ++ (K110_1 ++ (K110_2))
def K111 : List Ent := [(0, .aload_n 0, 0, 0), (1, .iload_n 1, 0, 0), (2, .invokevirtual 73, 95, 0), (5, .ifCond .eq 11, 0, 0), (8, .aload_n 0, 0, 0), (9, .iload_n 2, 0, 0), (10, .invokevirtual 47, 94, 0), (13, .ifCond .ne 6, 0, 0), (16, .ldc 58, 0, -2000000001), (18, .ireturn, 0, 0), (19, .aload_n 0, 0, 0), (20, .iload_n 1, 0, 0), (21, .iconst 0, 0, 0), (22, .invokevirtual 40, 96, 0), (25, .istore_n 3, 0, 0), (26, .aload_n 0, 0, 0), (27, .iload_n 1, 0, 0), (28, .invokevirtual 51, 97, 0), (31, .ifCond .ne 34, 0, 0), (34, .iload_n 3, 0, 0), (35, .iload_n 2, 0, 0), (36, .if_icmp .eq 29, 0, 0), (39, .aload_n 0, 0, 0), (40, .getfield 7, 5, 0), (43, .iload_n 2, 0, 0), (44, .invokestatic 63, 91, 0), (47, .iload_n 1, 0, 0), (48, .invokestatic 44, 93, 0), (51, .iaload, 0, 0), (52, .aload_n 0, 0, 0), (53, .getfield 7, 5, 0), (56, .aload_n 0, 0, 0), (57, .iload_n 1, 0, 0), (58, .invokevirtual 67, 106, 0), (61, .iaload, 0, 0), (62, .if_icmp .eq 6, 0, 0), (65, .ldc 76, 0, -2000000002), (67, .ireturn, 0, 0), (68, .aload_n 0, 0, 0), (69, .invokevirtual 60, 90, 0), (72, .aload_n 0, 0, 0), (73, .getfield 7, 5, 0), (76, .sipush 164, 0, 0), (79, .iconst 2, 0, 0), (80, .iload_n 1, 0, 0), (81, .imul, 0, 0), (82, .iadd, 0, 0), (83, .iconst 0, 0, 0), (84, .iadd, 0, 0), (85, .iload_n 2, 0, 0), (86, .iastore, 0, 0), (87, .iload_n 3, 0, 0), (88, .ireturn, 0, 0)]
def K112 : List Ent := [(0, .iconst 0, 0, 0), (1, .istore_n 3, 0, 0), (2, .iload_n 3, 0, 0), (3, .bipush 25, 0, 0), (5, .if_icmp .ge 25, 0, 0), (8, .aload_n 0, 0, 0), (9, .getfield 7, 5, 0), (12, .iload_n 2, 0, 0), (13, .iload_n 3, 0, 0), (14, .iadd, 0, 0), (15, .aload_n 0, 0, 0), (16, .getfield 7, 5, 0), (19, .iload_n 1, 0, 0), (20, .iload_n 3, 0, 0), (21, .iadd, 0, 0), (22, .iaload, 0, 0), (23, .iastore, 0, 0), (24, .iinc 3 1, 0, 0), (27, .goto (-25), 0, 0), (30, .return_, 0, 0)]
def K113 : List Ent := [(0, .aload_n 0, 0, 0), (1, .iload_n 1, 0, 0), (2, .invokevirtual 47, 94, 0), (5, .ifCond .ne 6, 0, 0), (8, .ldc 58, 0, -2000000001), (10, .ireturn, 0, 0), (11, .iconst 0, 0, 0), (12, .istore_n 2, 0, 0), (13, .iload_n 2, 0, 0), (14, .bipush 6, 0, 0), (16, .if_icmp .ge 17, 0, 0), (19, .aload_n 0, 0, 0), (20, .iload_n 2, 0, 0), (21, .invokevirtual 47, 94, 0), (24, .ifCond .eq 9, 0, 0), (27, .iinc 2 1, 0, 0), (30, .goto (-17), 0, 0), (33, .iload_n 2, 0, 0), (34, .bipush 6, 0, 0), (36, .if_icmp .ne 6, 0, 0), (39, .ldc 59, 0, -2000000003), (41, .ireturn, 0, 0), (42, .aload_n 0, 0, 0), (43, .invokevirtual 60, 90, 0), (46, .aload_n 0, 0, 0), (47, .getfield 7, 5, 0), (50, .bipush 6, 0, 0), (52, .dup2, 0, 0), (53, .iaload, 0, 0), (54, .iconst 1, 0, 0), (55, .iadd, 0, 0), (56, .iastore, 0, 0), (57, .aload_n 0, 0, 0), (58, .getfield 7, 5, 0), (61, .bipush 8, 0, 0), (63, .bipush 26, 0, 0), (65, .iload_n 2, 0, 0), (66, .imul, 0, 0), (67, .iadd, 0, 0), (68, .iconst 0, 0, 0), (69, .iadd, 0, 0), (70, .aload_n 0, 0, 0), (71, .getfield 7, 5, 0), (74, .bipush 6, 0, 0), (76, .iaload, 0, 0), (77, .iastore, 0, 0), (78, .aload_n 0, 0, 0), (79, .iload_n 1, 0, 0), (80, .invokestatic 63, 91, 0), (83, .iload_n 2, 0, 0), (84, .invokestatic 63, 91, 0), (87, .invokevirtual 85, 112, 0), (90, .iload_n 2, 0, 0), (91, .ireturn, 0, 0)]
def K114 : List Ent := [(0, .iconst 0, 0, 0), (1, .istore_n 2, 0, 0), (2, .iconst 0, 0, 0), (3, .istore_n 3, 0, 0), (4, .iload_n 3, 0, 0), (5, .aload_n 0, 0, 0), (6, .getfield 7, 5, 0), (9, .iconst 0, 0, 0), (10, .iaload, 0, 0), (11, .if_icmp .ge 37, 0, 0), (14, .iload_n 2, 0, 0), (15, .aload_n 0, 0, 0), (16, .iload_n 3, 0, 0), (17, .invokevirtual 51, 97, 0), (20, .ifCond .ne 19, 0, 0), (23, .aload_n 0, 0, 0), (24, .iload_n 3, 0, 0), (25, .iconst 0, 0, 0), (26, .invokevirtual 40, 96, 0), (29, .iload_n 1, 0, 0), (30, .if_icmp .ne 9, 0, 0), (33, .iconst 1, 0, 0), (34, .iload_n 3, 0, 0), (35, .ishl, 0, 0), (36, .goto 4, 0, 0), (39, .iconst 0, 0, 0), (40, .ior, 0, 0), (41, .istore_n 2, 0, 0), (42, .iinc 3 1, 0, 0), (45, .goto (-41), 0, 0), (48, .iload_n 2, 0, 0), (49, .ireturn, 0, 0)]
def K115 : List Ent := [(0, .aload_n 0, 0, 0), (1, .iload_n 1, 0, 0), (2, .invokevirtual 47, 94, 0), (5, .ifCond .ne 6, 0, 0), (8, .ldc 58, 0, -2000000001), (10, .ireturn, 0, 0), (11, .aload_n 0, 0, 0), (12, .iload_n 1, 0, 0), (13, .invokevirtual 89, 114, 0), (16, .ifCond .ne 14, 0, 0), (19, .aload_n 0, 0, 0), (20, .invokevirtual 92, 100, 0), (23, .invokestatic 95, 99, 0), (26, .iconst 1, 0, 0), (27, .if_icmp .ne 6, 0, 0), (30, .ldc 76, 0, -2000000002), (32, .ireturn, 0, 0), (33, .aload_n 0, 0, 0), (34, .invokevirtual 60, 90, 0), (37, .aload_n 0, 0, 0), (38, .getfield 7, 5, 0), (41, .bipush 8, 0, 0), (43, .bipush 26, 0, 0), (45, .iload_n 1, 0, 0), (46, .imul, 0, 0), (47, .iadd, 0, 0), (48, .iconst 0, 0, 0), (49, .iadd, 0, 0), (50, .iconst 0, 0, 0), (51, .iastore, 0, 0), (52, .aload_n 0, 0, 0), (53, .invokevirtual 92, 100, 0), (56, .invokestatic 95, 99, 0), (59, .ireturn, 0, 0)]
def K116 : List Ent := [(0, .aload_n 0, 0, 0), (1, .iload_n 1, 0, 0), (2, .invokevirtual 47, 94, 0), (5, .ifCond .eq 16, 0, 0), (8, .aload_n 0, 0, 0), (9, .iload_n 2, 0, 0), (10, .invokevirtual 47, 94, 0), (13, .ifCond .eq 8, 0, 0), (16, .iload_n 1, 0, 0), (17, .iload_n 2, 0, 0), (18, .if_icmp .ne 6, 0, 0), (21, .ldc 58, 0, -2000000001), (23, .ireturn, 0, 0), (24, .aload_n 0, 0, 0), (25, .invokevirtual 60, 90, 0), (28, .aload_n 0, 0, 0), (29, .iload_n 1, 0, 0), (30, .invokestatic 63, 91, 0), (33, .iload_n 2, 0, 0), (34, .invokestatic 63, 91, 0), (37, .invokevirtual 98, 102, 0), (40, .istore_n 3, 0, 0), (41, .aload_n 0, 0, 0), (42, .getfield 7, 5, 0), (45, .iconst 5, 0, 0), (46, .dup2, 0, 0), (47, .iaload, 0, 0), (48, .iload_n 3, 0, 0), (49, .iadd, 0, 0), (50, .iastore, 0, 0), (51, .iload_n 3, 0, 0), (52, .ireturn, 0, 0)]
def K117 : List Ent := [(0, .aload_n 0, 0, 0), (1, .getfield 7, 5, 0), (4, .sipush 180, 0, 0), (7, .bipush 30, 0, 0), (9, .iload_n 1, 0, 0), (10, .imul, 0, 0), (11, .iadd, 0, 0), (12, .iload_n 2, 0, 0), (13, .iadd, 0, 0), (14, .iaload, 0, 0), (15, .ireturn, 0, 0)]
def K118_0 : List Ent := [(0, .aload_n 0, 0, 0), (1, .iload_n 1, 0, 0), (2, .invokevirtual 47, 94, 0), (5, .ifCond .eq 26, 0, 0), (8, .aload_n 0, 0, 0), (9, .iload_n 2, 0, 0), (10, .invokevirtual 47, 94, 0), (13, .ifCond .eq 18, 0, 0), (16, .iload_n 1, 0, 0), (17, .iload_n 2, 0, 0), (18, .if_icmp .eq 13, 0, 0), (21, .iload_n 3, 0, 0), (22, .iconst 1, 0, 0), (23, .bipush 99, 0, 0), (25, .invokestatic 36, 88, 0), (28, .ifCond .ne 6, 0, 0), (31, .ldc 58, 0, -2000000001), (33, .ireturn, 0, 0), (34, .aload_n 0, 0, 0), (35, .getfield 7, 5, 0), (38, .iconst 1, 0, 0), (39, .iaload, 0, 0), (40, .istore 4, 0, 0), (42, .iload 4, 0, 0), (44, .bipush 8, 0, 0), (46, .if_icmp .ne 6, 0, 0), (49, .ldc 59, 0, -2000000003), (51, .ireturn, 0, 0), (52, .aload_n 0, 0, 0), (53, .invokevirtual 60, 90, 0), (56, .sipush 180, 0, 0), (59, .bipush 30, 0, 0), (61, .iload 4, 0, 0), (63, .imul, 0, 0), (64, .iadd, 0, 0), (65, .istore 5, 0, 0), (67, .aload_n 0, 0, 0), (68, .getfield 7, 5, 0), (71, .iload 5, 0, 0), (73, .iconst 0, 0, 0)]
def K118_1 : List Ent := [(74, .iadd, 0, 0), (75, .iload_n 1, 0, 0), (76, .iastore, 0, 0), (77, .aload_n 0, 0, 0), (78, .getfield 7, 5, 0), (81, .iload 5, 0, 0), (83, .iconst 1, 0, 0), (84, .iadd, 0, 0), (85, .iload_n 2, 0, 0), (86, .iastore, 0, 0), (87, .aload_n 0, 0, 0), (88, .getfield 7, 5, 0), (91, .iload 5, 0, 0), (93, .iconst 2, 0, 0), (94, .iadd, 0, 0), (95, .aload_n 0, 0, 0), (96, .getfield 7, 5, 0), (99, .bipush 8, 0, 0), (101, .bipush 26, 0, 0), (103, .iload_n 2, 0, 0), (104, .imul, 0, 0), (105, .iadd, 0, 0), (106, .iconst 0, 0, 0), (107, .iadd, 0, 0), (108, .iaload, 0, 0), (109, .iastore, 0, 0), (110, .aload_n 0, 0, 0), (111, .getfield 7, 5, 0), (114, .iload 5, 0, 0), (116, .iconst 3, 0, 0), (117, .iadd, 0, 0), (118, .aload_n 0, 0, 0), (119, .getfield 7, 5, 0), (122, .iconst 2, 0, 0), (123, .iaload, 0, 0), (124, .iload_n 3, 0, 0), (125, .iadd, 0, 0), (126, .iastore, 0, 0), (127, .aload_n 0, 0, 0), (128, .getfield 7, 5, 0)]
def K118_2 : List Ent := [(131, .iload 5, 0, 0), (133, .iconst 4, 0, 0), (134, .iadd, 0, 0), (135, .aload_n 0, 0, 0), (136, .getfield 7, 5, 0), (139, .bipush 7, 0, 0), (141, .iaload, 0, 0), (142, .iastore, 0, 0), (143, .aload_n 0, 0, 0), (144, .iload_n 1, 0, 0), (145, .invokestatic 63, 91, 0), (148, .iload 4, 0, 0), (150, .invokestatic 101, 92, 0), (153, .invokevirtual 85, 112, 0), (156, .aload_n 0, 0, 0), (157, .getfield 7, 5, 0), (160, .iconst 1, 0, 0), (161, .dup2, 0, 0), (162, .iaload, 0, 0), (163, .iconst 1, 0, 0), (164, .iadd, 0, 0), (165, .iastore, 0, 0), (166, .aload_n 0, 0, 0), (167, .getfield 7, 5, 0), (170, .bipush 7, 0, 0), (172, .dup2, 0, 0), (173, .iaload, 0, 0), (174, .iconst 1, 0, 0), (175, .iadd, 0, 0), (176, .iastore, 0, 0), (177, .aload_n 0, 0, 0), (178, .getfield 7, 5, 0), (181, .iload 5, 0, 0), (183, .iconst 3, 0, 0), (184, .iadd, 0, 0), (185, .iaload, 0, 0), (186, .ireturn, 0, 0)]
def K118 : List Ent := K118_0 ++ (K118_1 ++ (K118_2))
def K119 : List Ent := [(0, .aload_n 0, 0, 0), (1, .getfield 7, 5, 0), (4, .bipush 8, 0, 0), (6, .bipush 26, 0, 0), (8, .aload_n 0, 0, 0), (9, .iload_n 1, 0, 0), (10, .iconst 1, 0, 0), (11, .invokevirtual 104, 117, 0), (14, .imul, 0, 0), (15, .iadd, 0, 0), (16, .iconst 0, 0, 0), (17, .iadd, 0, 0), (18, .iaload, 0, 0), (19, .aload_n 0, 0, 0), (20, .iload_n 1, 0, 0), (21, .iconst 2, 0, 0), (22, .invokevirtual 104, 117, 0), (25, .if_icmp .eq 7, 0, 0), (28, .iconst 1, 0, 0), (29, .goto 4, 0, 0), (32, .iconst 0, 0, 0), (33, .ireturn, 0, 0)]
def K120 : List Ent := [(0, .aload_n 0, 0, 0), (1, .iload_n 1, 0, 0), (2, .invokevirtual 107, 119, 0), (5, .istore_n 2, 0, 0), (6, .aload_n 0, 0, 0), (7, .getfield 7, 5, 0), (10, .iload_n 2, 0, 0), (11, .ifCond .eq 7, 0, 0), (14, .iconst 4, 0, 0), (15, .goto 4, 0, 0), (18, .iconst 3, 0, 0), (19, .dup2, 0, 0), (20, .iaload, 0, 0), (21, .iconst 1, 0, 0), (22, .iadd, 0, 0), (23, .iastore, 0, 0), (24, .aload_n 0, 0, 0), (25, .getfield 7, 5, 0), (28, .iconst 5, 0, 0), (29, .dup2, 0, 0), (30, .iaload, 0, 0), (31, .iload_n 2, 0, 0), (32, .ifCond .eq 7, 0, 0), (35, .iconst 0, 0, 0), (36, .goto 20, 0, 0), (39, .aload_n 0, 0, 0), (40, .aload_n 0, 0, 0), (41, .iload_n 1, 0, 0), (42, .iconst 1, 0, 0), (43, .invokevirtual 104, 117, 0), (46, .invokestatic 63, 91, 0), (49, .iload_n 1, 0, 0), (50, .invokestatic 101, 92, 0), (53, .invokevirtual 98, 102, 0), (56, .iadd, 0, 0), (57, .iastore, 0, 0), (58, .aload_n 0, 0, 0), (59, .getfield 7, 5, 0), (62, .iconst 1, 0, 0), (63, .dup2, 0, 0), (64, .iaload, 0, 0), (65, .iconst 1, 0, 0), (66, .isub, 0, 0), (67, .iastore, 0, 0), (68, .sipush 180, 0, 0), (71, .bipush 30, 0, 0), (73, .iload_n 1, 0, 0), (74, .imul, 0, 0), (75, .iadd, 0, 0), (76, .istore_n 3, 0, 0), (77, .iload_n 3, 0, 0), (78, .sipush 180, 0, 0), (81, .bipush 30, 0, 0), (83, .aload_n 0, 0, 0), (84, .getfield 7, 5, 0), (87, .iconst 1, 0, 0), (88, .iaload, 0, 0), (89, .imul, 0, 0), (90, .iadd, 0, 0), (91, .if_icmp .ge 24, 0, 0), (94, .aload_n 0, 0, 0), (95, .getfield 7, 5, 0), (98, .iload_n 3, 0, 0), (99, .aload_n 0, 0, 0), (100, .getfield 7, 5, 0), (103, .iload_n 3, 0, 0), (104, .bipush 30, 0, 0), (106, .iadd, 0, 0), (107, .iaload, 0, 0), (108, .iastore, 0, 0), (109, .iinc 3 1, 0, 0), (112, .goto (-35), 0, 0), (115, .iload_n 2, 0, 0), (116, .ifCond .ne 7, 0, 0), (119, .iconst 1, 0, 0), (120, .goto 4, 0, 0), (123, .iconst 0, 0, 0), (124, .ireturn, 0, 0)]
def K121 : List Ent := [(0, .aload_n 0, 0, 0), (1, .getfield 7, 5, 0), (4, .iconst 2, 0, 0), (5, .dup2, 0, 0), (6, .iaload, 0, 0), (7, .iconst 1, 0, 0), (8, .iadd, 0, 0), (9, .iastore, 0, 0), (10, .iconst 0, 0, 0), (11, .istore_n 1, 0, 0), (12, .iconst 0, 0, 0), (13, .istore_n 2, 0, 0), (14, .iload_n 2, 0, 0), (15, .aload_n 0, 0, 0), (16, .getfield 7, 5, 0), (19, .iconst 1, 0, 0), (20, .iaload, 0, 0), (21, .if_icmp .ge 43, 0, 0), (24, .aload_n 0, 0, 0), (25, .iload_n 2, 0, 0), (26, .iconst 3, 0, 0), (27, .invokevirtual 104, 117, 0), (30, .aload_n 0, 0, 0), (31, .getfield 7, 5, 0), (34, .iconst 2, 0, 0), (35, .iaload, 0, 0), (36, .if_icmp .ne 22, 0, 0), (39, .iload_n 1, 0, 0), (40, .aload_n 0, 0, 0), (41, .iload_n 2, 0, 0), (42, .invokevirtual 110, 120, 0), (45, .ifCond .eq 7, 0, 0), (48, .iconst 1, 0, 0), (49, .goto 4, 0, 0), (52, .iconst 0, 0, 0), (53, .iadd, 0, 0), (54, .istore_n 1, 0, 0), (55, .goto (-41), 0, 0), (58, .iinc 2 1, 0, 0), (61, .goto (-47), 0, 0), (64, .iload_n 1, 0, 0), (65, .ireturn, 0, 0)]
def K122 : List Ent := [(0, .iload_n 1, 0, 0), (1, .iconst 1, 0, 0), (2, .bipush 99, 0, 0), (4, .invokestatic 36, 88, 0), (7, .ifCond .ne 6, 0, 0), (10, .ldc 58, 0, -2000000001), (12, .ireturn, 0, 0), (13, .aload_n 0, 0, 0), (14, .getfield 7, 5, 0), (17, .iconst 2, 0, 0), (18, .iaload, 0, 0), (19, .iload_n 1, 0, 0), (20, .iadd, 0, 0), (21, .sipush 1999, 0, 0), (24, .if_icmp .le 6, 0, 0), (27, .ldc 59, 0, -2000000003), (29, .ireturn, 0, 0), (30, .aload_n 0, 0, 0), (31, .invokevirtual 60, 90, 0), (34, .iconst 0, 0, 0), (35, .istore_n 2, 0, 0), (36, .iconst 0, 0, 0), (37, .istore_n 3, 0, 0), (38, .iload_n 3, 0, 0), (39, .iload_n 1, 0, 0), (40, .if_icmp .ge 16, 0, 0), (43, .iload_n 2, 0, 0), (44, .aload_n 0, 0, 0), (45, .invokevirtual 113, 121, 0), (48, .iadd, 0, 0), (49, .istore_n 2, 0, 0), (50, .iinc 3 1, 0, 0), (53, .goto (-15), 0, 0), (56, .iload_n 2, 0, 0), (57, .ireturn, 0, 0)]
def K123 : List Ent := [(0, .iconst 0, 0, 0), (1, .istore_n 2, 0, 0), (2, .iconst 0, 0, 0), (3, .istore_n 3, 0, 0), (4, .iload_n 3, 0, 0), (5, .bipush 8, 0, 0), (7, .if_icmp .ge 35, 0, 0), (10, .iload_n 2, 0, 0), (11, .aload_n 0, 0, 0), (12, .getfield 7, 5, 0), (15, .iload_n 1, 0, 0), (16, .invokestatic 63, 91, 0), (19, .iload_n 3, 0, 0), (20, .invokestatic 44, 93, 0), (23, .iaload, 0, 0), (24, .ifCond .le 9, 0, 0), (27, .iconst 1, 0, 0), (28, .iload_n 3, 0, 0), (29, .ishl, 0, 0), (30, .goto 4, 0, 0), (33, .iconst 0, 0, 0), (34, .ior, 0, 0), (35, .istore_n 2, 0, 0), (36, .iinc 3 1, 0, 0), (39, .goto (-35), 0, 0), (42, .iload_n 2, 0, 0), (43, .ireturn, 0, 0)]
def K124 : List Ent := [(0, .iconst 0, 0, 0), (1, .istore_n 2, 0, 0), (2, .iconst 0, 0, 0), (3, .istore_n 3, 0, 0), (4, .iload_n 3, 0, 0), (5, .bipush 6, 0, 0), (7, .if_icmp .ge 42, 0, 0), (10, .iload_n 2, 0, 0), (11, .aload_n 0, 0, 0), (12, .iload_n 3, 0, 0), (13, .invokevirtual 47, 94, 0), (16, .ifCond .eq 24, 0, 0), (19, .aload_n 0, 0, 0), (20, .iload_n 3, 0, 0), (21, .invokestatic 63, 91, 0), (24, .iload_n 1, 0, 0), (25, .invokestatic 63, 91, 0), (28, .invokevirtual 116, 104, 0), (31, .ifCond .eq 9, 0, 0), (34, .iconst 1, 0, 0), (35, .iload_n 3, 0, 0), (36, .ishl, 0, 0), (37, .goto 4, 0, 0), (40, .iconst 0, 0, 0), (41, .ior, 0, 0), (42, .istore_n 2, 0, 0), (43, .iinc 3 1, 0, 0), (46, .goto (-42), 0, 0), (49, .iload_n 2, 0, 0), (50, .ireturn, 0, 0)]
def K125 : List Ent := [(0, .aload_n 0, 0, 0), (1, .iload_n 1, 0, 0), (2, .invokevirtual 47, 94, 0), (5, .ifCond .eq 13, 0, 0), (8, .iload_n 2, 0, 0), (9, .iconst 0, 0, 0), (10, .bipush 7, 0, 0), (12, .invokestatic 36, 88, 0), (15, .ifCond .ne 6, 0, 0), (18, .ldc 58, 0, -2000000001), (20, .ireturn, 0, 0), (21, .iload_n 2, 0, 0), (22, .tableswitch 86 0 6 #[42, 42, 42, 52, 61, 74, 80], 42, 0), (64, .aload_n 0, 0, 0), (65, .iload_n 1, 0, 0), (66, .invokestatic 63, 91, 0), (69, .iload_n 2, 0, 0), (70, .invokevirtual 70, 98, 0), (73, .ireturn, 0, 0), (74, .aload_n 0, 0, 0), (75, .iload_n 1, 0, 0), (76, .invokevirtual 120, 123, 0), (79, .invokestatic 95, 99, 0), (82, .ireturn, 0, 0), (83, .aload_n 0, 0, 0), (84, .getfield 7, 5, 0), (87, .iload_n 1, 0, 0), (88, .invokestatic 63, 91, 0), (91, .iaload, 0, 0), (92, .invokestatic 95, 99, 0), (95, .ireturn, 0, 0), (96, .aload_n 0, 0, 0), (97, .iload_n 1, 0, 0), (98, .invokevirtual 89, 114, 0), (101, .ireturn, 0, 0), (102, .aload_n 0, 0, 0), (103, .iload_n 1, 0, 0), (104, .invokevirtual 120, 123, 0), (107, .ireturn, 0, 0), (108, .aload_n 0, 0, 0), (109, .iload_n 1, 0, 0), (110, .invokevirtual 123, 124, 0), (113, .ireturn, 0, 0)]
def K126 : List Ent := [(0, .aload_n 0, 0, 0), (1, .iload_n 1, 0, 0), (2, .invokevirtual 47, 94, 0), (5, .ifCond .eq 20, 0, 0), (8, .aload_n 0, 0, 0), (9, .iload_n 2, 0, 0), (10, .invokevirtual 73, 95, 0), (13, .ifCond .eq 12, 0, 0), (16, .iload_n 3, 0, 0), (17, .iconst 0, 0, 0), (18, .iconst 2, 0, 0), (19, .invokestatic 36, 88, 0), (22, .ifCond .ne 6, 0, 0), (25, .ldc 58, 0, -2000000001), (27, .ireturn, 0, 0), (28, .iload_n 1, 0, 0), (29, .invokestatic 63, 91, 0), (32, .iload_n 2, 0, 0), (33, .invokestatic 44, 93, 0), (36, .istore 4, 0, 0), (38, .aload_n 0, 0, 0), (39, .getfield 7, 5, 0), (42, .iload 4, 0, 0), (44, .iaload, 0, 0), (45, .ifCond .ne 8, 0, 0), (48, .ldc 126, 0, -2000000004), (50, .goto 12, 0, 0), (53, .aload_n 0, 0, 0), (54, .getfield 7, 5, 0), (57, .iload 4, 0, 0), (59, .iload_n 3, 0, 0), (60, .iadd, 0, 0), (61, .iaload, 0, 0), (62, .ireturn, 0, 0)]
def K127 : List Ent := [(0, .iconst 0, 0, 0), (1, .istore_n 3, 0, 0), (2, .iconst 0, 0, 0), (3, .istore 4, 0, 0), (5, .iload 4, 0, 0), (7, .bipush 6, 0, 0), (9, .if_icmp .ge 93, 0, 0), (12, .aload_n 0, 0, 0), (13, .iload 4, 0, 0), (15, .invokevirtual 47, 94, 0), (18, .ifCond .eq 59, 0, 0), (21, .iload_n 2, 0, 0), (22, .ifCond .eq 24, 0, 0), (25, .aload_n 0, 0, 0), (26, .getfield 7, 5, 0), (29, .iload 4, 0, 0), (31, .invokestatic 63, 91, 0), (34, .iaload, 0, 0), (35, .iload_n 1, 0, 0), (36, .ishr, 0, 0), (37, .iconst 1, 0, 0), (38, .iand, 0, 0), (39, .iconst 1, 0, 0), (40, .if_icmp .ne 37, 0, 0), (43, .goto 30, 0, 0), (46, .aload_n 0, 0, 0), (47, .getfield 7, 5, 0), (50, .iload 4, 0, 0), (52, .invokestatic 63, 91, 0), (55, .iload_n 1, 0, 0), (56, .invokestatic 44, 93, 0), (59, .iaload, 0, 0), (60, .aload_n 0, 0, 0), (61, .getfield 7, 5, 0), (64, .aload_n 0, 0, 0), (65, .iload_n 1, 0, 0), (66, .invokevirtual 67, 106, 0), (69, .iaload, 0, 0), (70, .if_icmp .ne 7, 0, 0), (73, .iconst 1, 0, 0), (74, .goto 4, 0, 0), (77, .iconst 0, 0, 0), (78, .istore 5, 0, 0), (80, .iload_n 3, 0, 0), (81, .iload 5, 0, 0), (83, .ifCond .eq 10, 0, 0), (86, .iconst 1, 0, 0), (87, .iload 4, 0, 0), (89, .ishl, 0, 0), (90, .goto 4, 0, 0), (93, .iconst 0, 0, 0), (94, .ior, 0, 0), (95, .istore_n 3, 0, 0), (96, .iinc 4 1, 0, 0), (99, .goto (-94), 0, 0), (102, .iload_n 3, 0, 0), (103, .ireturn, 0, 0)]
def K128 : List Ent := [(0, .aload_n 0, 0, 0), (1, .iload_n 1, 0, 0), (2, .invokevirtual 73, 95, 0), (5, .ifCond .eq 12, 0, 0), (8, .iload_n 2, 0, 0), (9, .iconst 0, 0, 0), (10, .iconst 4, 0, 0), (11, .invokestatic 36, 88, 0), (14, .ifCond .ne 6, 0, 0), (17, .ldc 58, 0, -2000000001), (19, .ireturn, 0, 0), (20, .iload_n 2, 0, 0), (21, .iconst 4, 0, 0), (22, .if_icmp .ne 10, 0, 0), (25, .aload_n 0, 0, 0), (26, .iload_n 1, 0, 0), (27, .iconst 1, 0, 0), (28, .invokevirtual 127, 127, 0), (31, .ireturn, 0, 0), (32, .aload_n 0, 0, 0), (33, .iload_n 1, 0, 0), (34, .invokevirtual 51, 97, 0), (37, .iload_n 2, 0, 0), (38, .iconst 2, 0, 0), (39, .if_icmp .ne 7, 0, 0), (42, .iconst 1, 0, 0), (43, .goto 4, 0, 0), (46, .iconst 0, 0, 0), (47, .if_icmp .eq 6, 0, 0), (50, .ldc 126, 0, -2000000004), (52, .ireturn, 0, 0), (53, .iload_n 2, 0, 0), (54, .ifCond .ne 12, 0, 0), (57, .aload_n 0, 0, 0), (58, .iload_n 1, 0, 0), (59, .iconst 0, 0, 0), (60, .invokevirtual 40, 96, 0), (63, .goto 41, 0, 0), (66, .iload_n 2, 0, 0), (67, .iconst 1, 0, 0), (68, .if_icmp .ne 16, 0, 0), (71, .aload_n 0, 0, 0), (72, .getfield 7, 5, 0), (75, .aload_n 0, 0, 0), (76, .iload_n 1, 0, 0), (77, .invokevirtual 67, 106, 0), (80, .iaload, 0, 0), (81, .goto 23, 0, 0), (84, .iload_n 2, 0, 0), (85, .iconst 2, 0, 0), (86, .if_icmp .ne 12, 0, 0), (89, .aload_n 0, 0, 0), (90, .iload_n 1, 0, 0), (91, .iconst 1, 0, 0), (92, .invokevirtual 40, 96, 0), (95, .goto 9, 0, 0), (98, .aload_n 0, 0, 0), (99, .iload_n 1, 0, 0), (100, .iconst 0, 0, 0), (101, .invokevirtual 127, 127, 0), (104, .ireturn, 0, 0)]
def K129 : List Ent := [(0, .iconst 0, 0, 0), (1, .istore_n 2, 0, 0), (2, .iload_n 2, 0, 0), (3, .aload_n 0, 0, 0), (4, .getfield 7, 5, 0), (7, .iconst 1, 0, 0), (8, .iaload, 0, 0), (9, .if_icmp .ge 106, 0, 0), (12, .iconst 0, 0, 0), (13, .istore_n 3, 0, 0), (14, .iconst 0, 0, 0), (15, .istore 4, 0, 0), (17, .iload 4, 0, 0), (19, .aload_n 0, 0, 0), (20, .getfield 7, 5, 0), (23, .iconst 1, 0, 0), (24, .iaload, 0, 0), (25, .if_icmp .ge 77, 0, 0), (28, .aload_n 0, 0, 0), (29, .iload 4, 0, 0), (31, .iconst 3, 0, 0), (32, .invokevirtual 104, 117, 0), (35, .aload_n 0, 0, 0), (36, .iload_n 2, 0, 0), (37, .iconst 3, 0, 0), (38, .invokevirtual 104, 117, 0), (41, .if_icmp .lt 35, 0, 0), (44, .aload_n 0, 0, 0), (45, .iload 4, 0, 0), (47, .iconst 3, 0, 0), (48, .invokevirtual 104, 117, 0), (51, .aload_n 0, 0, 0), (52, .iload_n 2, 0, 0), (53, .iconst 3, 0, 0), (54, .invokevirtual 104, 117, 0), (57, .if_icmp .ne 23, 0, 0), (60, .aload_n 0, 0, 0), (61, .iload 4, 0, 0), (63, .iconst 4, 0, 0), (64, .invokevirtual 104, 117, 0), (67, .aload_n 0, 0, 0), (68, .iload_n 2, 0, 0), (69, .iconst 4, 0, 0), (70, .invokevirtual 104, 117, 0), (73, .if_icmp .ge 7, 0, 0), (76, .iconst 1, 0, 0), (77, .goto 4, 0, 0), (80, .iconst 0, 0, 0), (81, .istore 5, 0, 0), (83, .iload_n 3, 0, 0), (84, .iload 5, 0, 0), (86, .ifCond .eq 7, 0, 0), (89, .iconst 1, 0, 0), (90, .goto 4, 0, 0), (93, .iconst 0, 0, 0), (94, .iadd, 0, 0), (95, .istore_n 3, 0, 0), (96, .iinc 4 1, 0, 0), (99, .goto (-82), 0, 0), (102, .iload_n 3, 0, 0), (103, .iload_n 1, 0, 0), (104, .if_icmp .ne 5, 0, 0), (107, .iload_n 2, 0, 0), (108, .ireturn, 0, 0), (109, .iinc 2 1, 0, 0), (112, .goto (-110), 0, 0), (115, .ldc 126, 0, -2000000004), (117, .ireturn, 0, 0)]
def K130 : List Ent := [(0, .iload_n 1, 0, 0), (1, .ifCond .lt 12, 0, 0), (4, .iload_n 2, 0, 0), (5, .iconst 0, 0, 0), (6, .iconst 4, 0, 0), (7, .invokestatic 36, 88, 0), (10, .ifCond .ne 6, 0, 0), (13, .ldc 58, 0, -2000000001), (15, .ireturn, 0, 0), (16, .aload_n 0, 0, 0), (17, .iload_n 1, 0, 0), (18, .invokevirtual 131, 129, 0), (21, .istore_n 3, 0, 0), (22, .iload_n 3, 0, 0), (23, .ifCond .ge 6, 0, 0), (26, .ldc 126, 0, -2000000004), (28, .ireturn, 0, 0), (29, .iload_n 2, 0, 0), (30, .iconst 2, 0, 0), (31, .if_icmp .ge 12, 0, 0), (34, .aload_n 0, 0, 0), (35, .iload_n 3, 0, 0), (36, .iload_n 2, 0, 0), (37, .invokevirtual 104, 117, 0), (40, .goto 54, 0, 0), (43, .iload_n 2, 0, 0), (44, .iconst 2, 0, 0), (45, .if_icmp .ne 19, 0, 0), (48, .aload_n 0, 0, 0), (49, .iload_n 3, 0, 0), (50, .iconst 3, 0, 0), (51, .invokevirtual 104, 117, 0), (54, .aload_n 0, 0, 0), (55, .getfield 7, 5, 0), (58, .iconst 2, 0, 0), (59, .iaload, 0, 0), (60, .isub, 0, 0), (61, .goto 33, 0, 0), (64, .iload_n 2, 0, 0), (65, .iconst 3, 0, 0), (66, .if_icmp .ne 15, 0, 0), (69, .aload_n 0, 0, 0), (70, .iload_n 3, 0, 0), (71, .invokestatic 101, 92, 0), (74, .iconst 0, 0, 0), (75, .invokevirtual 70, 98, 0), (78, .goto 16, 0, 0), (81, .aload_n 0, 0, 0), (82, .iload_n 3, 0, 0), (83, .invokevirtual 107, 119, 0), (86, .ifCond .eq 7, 0, 0), (89, .iconst 1, 0, 0), (90, .goto 4, 0, 0), (93, .iconst 0, 0, 0), (94, .ireturn, 0, 0)]
def K131 : List Ent := [(0, .aload_n 0, 0, 0), (1, .getfield 7, 5, 0), (4, .aload_n 0, 0, 0), (5, .getfield 19, 5, 3), (8, .invokestatic 134, 89, 0), (11, .aload_n 0, 0, 0), (12, .iload_n 1, 0, 0), (13, .invokestatic 63, 91, 0), (16, .iconst 0, 0, 0), (17, .invokevirtual 70, 98, 0), (20, .istore 4, 0, 0), (22, .aload_n 0, 0, 0), (23, .iload_n 1, 0, 0), (24, .invokestatic 63, 91, 0), (27, .iload_n 2, 0, 0), (28, .invokestatic 63, 91, 0), (31, .invokevirtual 98, 102, 0), (34, .istore 5, 0, 0), (36, .iload_n 3, 0, 0), (37, .ifCond .ne 8, 0, 0), (40, .iload 5, 0, 0), (42, .goto 43, 0, 0), (45, .iload_n 3, 0, 0), (46, .iconst 1, 0, 0), (47, .if_icmp .ne 18, 0, 0), (50, .aload_n 0, 0, 0), (51, .iload_n 1, 0, 0), (52, .invokestatic 63, 91, 0), (55, .iconst 0, 0, 0), (56, .invokevirtual 70, 98, 0), (59, .iload 4, 0, 0), (61, .isub, 0, 0), (62, .goto 23, 0, 0), (65, .aload_n 0, 0, 0), (66, .iload_n 1, 0, 0), (67, .invokestatic 63, 91, 0), (70, .iload_n 2, 0, 0), (71, .invokestatic 63, 91, 0), (74, .invokevirtual 116, 104, 0), (77, .ifCond .eq 7, 0, 0), (80, .iconst 1, 0, 0), (81, .goto 4, 0, 0), (84, .iconst 0, 0, 0), (85, .istore 6, 0, 0), (87, .aload_n 0, 0, 0), (88, .getfield 19, 5, 3), (91, .aload_n 0, 0, 0), (92, .getfield 7, 5, 0), (95, .invokestatic 134, 89, 0), (98, .iload 6, 0, 0), (100, .ireturn, 0, 0)]
def K132 : List Ent := [(0, .aload_n 0, 0, 0), (1, .iload_n 1, 0, 0), (2, .invokevirtual 47, 94, 0), (5, .ifCond .eq 25, 0, 0), (8, .aload_n 0, 0, 0), (9, .iload_n 2, 0, 0), (10, .invokevirtual 47, 94, 0), (13, .ifCond .eq 17, 0, 0), (16, .iload_n 1, 0, 0), (17, .iload_n 2, 0, 0), (18, .if_icmp .eq 12, 0, 0), (21, .iload_n 3, 0, 0), (22, .iconst 0, 0, 0), (23, .iconst 2, 0, 0), (24, .invokestatic 36, 88, 0), (27, .ifCond .ne 6, 0, 0), (30, .ldc 58, 0, -2000000001), (32, .ireturn, 0, 0), (33, .aload_n 0, 0, 0), (34, .iload_n 1, 0, 0), (35, .iload_n 2, 0, 0), (36, .iload_n 3, 0, 0), (37, .invokevirtual 138, 131, 0), (40, .ireturn, 0, 0)]
def K133 : List Ent := [(0, .iconst 0, 0, 0), (1, .istore_n 1, 0, 0), (2, .aload_n 0, 0, 0), (3, .iload_n 1, 0, 0), (4, .invokevirtual 47, 94, 0), (7, .ifCond .ne 9, 0, 0), (10, .iinc 1 1, 0, 0), (13, .goto (-11), 0, 0), (16, .iload_n 1, 0, 0), (17, .ireturn, 0, 0)]
def K134 : List Ent := [(0, .aload_n 0, 0, 0), (1, .getfield 7, 5, 0), (4, .aload_n 0, 0, 0), (5, .getfield 19, 5, 3), (8, .invokestatic 134, 89, 0), (11, .aload_n 0, 0, 0), (12, .invokevirtual 141, 133, 0), (15, .istore_n 1, 0, 0), (16, .iconst 0, 0, 0), (17, .istore_n 2, 0, 0), (18, .iconst 0, 0, 0), (19, .istore_n 3, 0, 0), (20, .iload_n 3, 0, 0), (21, .bipush 6, 0, 0), (23, .if_icmp .ge 41, 0, 0), (26, .iload_n 2, 0, 0), (27, .aload_n 0, 0, 0), (28, .iload_n 3, 0, 0), (29, .invokevirtual 47, 94, 0), (32, .ifCond .eq 23, 0, 0), (35, .iload_n 3, 0, 0), (36, .iload_n 1, 0, 0), (37, .if_icmp .eq 18, 0, 0), (40, .aload_n 0, 0, 0), (41, .iload_n 1, 0, 0), (42, .invokestatic 63, 91, 0), (45, .iload_n 3, 0, 0), (46, .invokestatic 63, 91, 0), (49, .invokevirtual 98, 102, 0), (52, .goto 4, 0, 0), (55, .iconst 0, 0, 0), (56, .iadd, 0, 0), (57, .istore_n 2, 0, 0), (58, .iinc 3 1, 0, 0), (61, .goto (-41), 0, 0), (64, .iload_n 2, 0, 0), (65, .ifCond .ge 8, 0, 0), (68, .ldc 126, 0, -2000000004), (70, .goto 12, 0, 0), (73, .aload_n 0, 0, 0), (74, .iload_n 1, 0, 0), (75, .invokestatic 63, 91, 0), (78, .iconst 0, 0, 0), (79, .invokevirtual 70, 98, 0), (82, .istore_n 3, 0, 0), (83, .aload_n 0, 0, 0), (84, .getfield 19, 5, 3), (87, .aload_n 0, 0, 0), (88, .getfield 7, 5, 0), (91, .invokestatic 134, 89, 0), (94, .iload_n 3, 0, 0), (95, .ireturn, 0, 0)]
def K135 : List Ent := [(0, .iconst 0, 0, 0), (1, .istore_n 1, 0, 0), (2, .iconst 0, 0, 0), (3, .istore_n 2, 0, 0), (4, .iload_n 2, 0, 0), (5, .bipush 8, 0, 0), (7, .if_icmp .ge 116, 0, 0), (10, .aload_n 0, 0, 0), (11, .invokevirtual 141, 133, 0), (14, .invokestatic 63, 91, 0), (17, .iload_n 2, 0, 0), (18, .invokestatic 44, 93, 0), (21, .istore_n 3, 0, 0), (22, .iconst 0, 0, 0), (23, .istore 4, 0, 0), (25, .iload 4, 0, 0), (27, .bipush 6, 0, 0), (29, .if_icmp .ge 55, 0, 0), (32, .aload_n 0, 0, 0), (33, .iload 4, 0, 0), (35, .invokevirtual 47, 94, 0), (38, .ifCond .eq 38, 0, 0), (41, .aload_n 0, 0, 0), (42, .getfield 7, 5, 0), (45, .iload 4, 0, 0), (47, .invokestatic 63, 91, 0), (50, .iload_n 2, 0, 0), (51, .invokestatic 44, 93, 0), (54, .iaload, 0, 0), (55, .aload_n 0, 0, 0), (56, .getfield 7, 5, 0), (59, .iload_n 3, 0, 0), (60, .iaload, 0, 0), (61, .if_icmp .ge 15, 0, 0), (64, .iload 4, 0, 0), (66, .invokestatic 63, 91, 0), (69, .iload_n 2, 0, 0), (70, .invokestatic 44, 93, 0), (73, .goto 4, 0, 0), (76, .iload_n 3, 0, 0), (77, .istore_n 3, 0, 0), (78, .iinc 4 1, 0, 0), (81, .goto (-56), 0, 0), (84, .iload_n 1, 0, 0), (85, .aload_n 0, 0, 0), (86, .getfield 7, 5, 0), (89, .iload_n 3, 0, 0), (90, .iaload, 0, 0), (91, .ifCond .ne 7, 0, 0), (94, .iconst 0, 0, 0), (95, .goto 20, 0, 0), (98, .aload_n 0, 0, 0), (99, .getfield 7, 5, 0), (102, .iload_n 3, 0, 0), (103, .iconst 1, 0, 0), (104, .iadd, 0, 0), (105, .iaload, 0, 0), (106, .aload_n 0, 0, 0), (107, .getfield 7, 5, 0), (110, .iload_n 3, 0, 0), (111, .iconst 2, 0, 0), (112, .iadd, 0, 0), (113, .iaload, 0, 0), (114, .isub, 0, 0), (115, .iadd, 0, 0), (116, .istore_n 1, 0, 0), (117, .iinc 2 1, 0, 0), (120, .goto (-116), 0, 0), (123, .iload_n 1, 0, 0), (124, .ireturn, 0, 0)]
def K136 : List Ent := [(0, .iload_n 1, 0, 0), (1, .iconst 1, 0, 0), (2, .iadd, 0, 0), (3, .bipush 6, 0, 0), (5, .irem, 0, 0), (6, .istore_n 2, 0, 0), (7, .aload_n 0, 0, 0), (8, .iload_n 2, 0, 0), (9, .invokevirtual 47, 94, 0), (12, .ifCond .ne 13, 0, 0), (15, .iload_n 2, 0, 0), (16, .iconst 1, 0, 0), (17, .iadd, 0, 0), (18, .bipush 6, 0, 0), (20, .irem, 0, 0), (21, .istore_n 2, 0, 0), (22, .goto (-15), 0, 0), (25, .iload_n 2, 0, 0), (26, .ireturn, 0, 0)]
def K137 : List Ent := [(0, .aload_n 0, 0, 0), (1, .getfield 7, 5, 0), (4, .aload_n 0, 0, 0), (5, .getfield 19, 5, 3), (8, .invokestatic 134, 89, 0), (11, .iconst 0, 0, 0), (12, .istore_n 1, 0, 0), (13, .aload_n 0, 0, 0), (14, .invokevirtual 141, 133, 0), (17, .istore_n 2, 0, 0), (18, .aload_n 0, 0, 0), (19, .aload_n 0, 0, 0), (20, .invokevirtual 141, 133, 0), (23, .invokevirtual 123, 124, 0), (26, .aload_n 0, 0, 0), (27, .invokevirtual 92, 100, 0), (30, .if_icmp .eq 39, 0, 0), (33, .iload_n 1, 0, 0), (34, .aload_n 0, 0, 0), (35, .iload_n 2, 0, 0), (36, .invokestatic 63, 91, 0), (39, .aload_n 0, 0, 0), (40, .iload_n 2, 0, 0), (41, .invokevirtual 144, 136, 0), (44, .invokestatic 63, 91, 0), (47, .invokevirtual 98, 102, 0), (50, .ifCond .ge 7, 0, 0), (53, .iconst 0, 0, 0), (54, .goto 4, 0, 0), (57, .iconst 1, 0, 0), (58, .iadd, 0, 0), (59, .istore_n 1, 0, 0), (60, .aload_n 0, 0, 0), (61, .iload_n 2, 0, 0), (62, .invokevirtual 144, 136, 0), (65, .istore_n 2, 0, 0), (66, .goto (-48), 0, 0), (69, .aload_n 0, 0, 0), (70, .getfield 19, 5, 3), (73, .aload_n 0, 0, 0), (74, .getfield 7, 5, 0), (77, .invokestatic 134, 89, 0), (80, .iload_n 1, 0, 0), (81, .ireturn, 0, 0)]
def K138 : List Ent := [(0, .aload_n 0, 0, 0), (1, .iload_n 1, 0, 0), (2, .invokevirtual 47, 94, 0), (5, .ifCond .eq 13, 0, 0), (8, .iload_n 2, 0, 0), (9, .iconst 0, 0, 0), (10, .bipush 99, 0, 0), (12, .invokestatic 36, 88, 0), (15, .ifCond .ne 6, 0, 0), (18, .ldc 58, 0, -2000000001), (20, .ireturn, 0, 0), (21, .aload_n 0, 0, 0), (22, .getfield 7, 5, 0), (25, .aload_n 0, 0, 0), (26, .getfield 19, 5, 3), (29, .invokestatic 134, 89, 0), (32, .iconst 0, 0, 0), (33, .istore_n 3, 0, 0), (34, .iconst 0, 0, 0), (35, .istore 4, 0, 0), (37, .iload 4, 0, 0), (39, .iload_n 2, 0, 0), (40, .if_icmp .ge 16, 0, 0), (43, .iload_n 3, 0, 0), (44, .aload_n 0, 0, 0), (45, .invokevirtual 113, 121, 0), (48, .iadd, 0, 0), (49, .istore_n 3, 0, 0), (50, .iinc 4 1, 0, 0), (53, .goto (-16), 0, 0), (56, .iload_n 3, 0, 0), (57, .ifCond .ge 8, 0, 0), (60, .ldc 126, 0, -2000000004), (62, .goto 12, 0, 0), (65, .aload_n 0, 0, 0), (66, .iload_n 1, 0, 0), (67, .invokestatic 63, 91, 0), (70, .iconst 0, 0, 0), (71, .invokevirtual 70, 98, 0), (74, .istore 4, 0, 0), (76, .aload_n 0, 0, 0), (77, .getfield 19, 5, 3), (80, .aload_n 0, 0, 0), (81, .getfield 7, 5, 0), (84, .invokestatic 134, 89, 0), (87, .iload 4, 0, 0), (89, .ireturn, 0, 0)]
def K139 : List Ent := [(0, .iload_n 1, 0, 0), (1, .iconst 0, 0, 0), (2, .iconst 1, 0, 0), (3, .invokestatic 36, 88, 0), (6, .ifCond .ne 6, 0, 0), (9, .ldc 58, 0, -2000000001), (11, .ireturn, 0, 0), (12, .iconst (-1), 0, 0), (13, .istore_n 2, 0, 0), (14, .iconst (-1), 0, 0), (15, .istore_n 3, 0, 0), (16, .iconst 0, 0, 0), (17, .istore 4, 0, 0), (19, .iload 4, 0, 0), (21, .bipush 6, 0, 0), (23, .if_icmp .ge 117, 0, 0), (26, .iconst 0, 0, 0), (27, .istore 5, 0, 0), (29, .iconst 0, 0, 0), (30, .istore 6, 0, 0), (32, .iload 6, 0, 0), (34, .bipush 6, 0, 0), (36, .if_icmp .ge 52, 0, 0), (39, .aload_n 0, 0, 0), (40, .iload 4, 0, 0), (42, .invokevirtual 47, 94, 0), (45, .ifCond .eq 43, 0, 0), (48, .iload 5, 0, 0), (50, .aload_n 0, 0, 0), (51, .iload 6, 0, 0), (53, .invokevirtual 47, 94, 0), (56, .ifCond .eq 22, 0, 0), (59, .iload 6, 0, 0), (61, .iload 4, 0, 0), (63, .if_icmp .eq 15, 0, 0), (66, .aload_n 0, 0, 0), (67, .iload 4, 0, 0), (69, .iload 6, 0, 0), (71, .iconst 0, 0, 0), (72, .invokevirtual 138, 131, 0), (75, .goto 4, 0, 0), (78, .iconst 0, 0, 0), (79, .iadd, 0, 0), (80, .istore 5, 0, 0), (82, .iinc 6 1, 0, 0), (85, .goto (-53), 0, 0), (88, .aload_n 0, 0, 0), (89, .iload 4, 0, 0), (91, .invokevirtual 47, 94, 0), (94, .ifCond .eq 13, 0, 0), (97, .iload 5, 0, 0), (99, .iload_n 3, 0, 0), (100, .if_icmp .le 7, 0, 0), (103, .iconst 1, 0, 0), (104, .goto 4, 0, 0), (107, .iconst 0, 0, 0), (108, .istore 6, 0, 0), (110, .iload 6, 0, 0), (112, .ifCond .eq 8, 0, 0), (115, .iload 4, 0, 0), (117, .goto 4, 0, 0), (120, .iload_n 2, 0, 0), (121, .istore_n 2, 0, 0), (122, .iload 6, 0, 0), (124, .ifCond .eq 8, 0, 0), (127, .iload 5, 0, 0), (129, .goto 4, 0, 0), (132, .iload_n 3, 0, 0), (133, .istore_n 3, 0, 0), (134, .iinc 4 1, 0, 0), (137, .goto (-118), 0, 0), (140, .iload_n 1, 0, 0), (141, .ifCond .ne 7, 0, 0), (144, .iload_n 2, 0, 0), (145, .goto 4, 0, 0), (148, .iload_n 3, 0, 0), (149, .ireturn, 0, 0)]
def K140 : List Ent := [(0, .iload_n 1, 0, 0), (1, .tableswitch 119 0 10 #[59, 67, 74, 79, 86, 93, 93, 93, 104, 109, 114], 59, 0), (60, .aload_n 0, 0, 0), (61, .invokevirtual 92, 100, 0), (64, .invokestatic 95, 99, 0), (67, .ireturn, 0, 0), (68, .aload_n 0, 0, 0), (69, .getfield 7, 5, 0), (72, .iconst 0, 0, 0), (73, .iaload, 0, 0), (74, .ireturn, 0, 0), (75, .aload_n 0, 0, 0), (76, .invokevirtual 81, 101, 0), (79, .ireturn, 0, 0), (80, .aload_n 0, 0, 0), (81, .getfield 7, 5, 0), (84, .iconst 1, 0, 0), (85, .iaload, 0, 0), (86, .ireturn, 0, 0), (87, .aload_n 0, 0, 0), (88, .getfield 7, 5, 0), (91, .iconst 2, 0, 0), (92, .iaload, 0, 0), (93, .ireturn, 0, 0), (94, .aload_n 0, 0, 0), (95, .getfield 7, 5, 0), (98, .iconst 3, 0, 0), (99, .iload_n 1, 0, 0), (100, .iadd, 0, 0), (101, .iconst 5, 0, 0), (102, .isub, 0, 0), (103, .iaload, 0, 0), (104, .ireturn, 0, 0), (105, .aload_n 0, 0, 0), (106, .getfield 32, 5, 4), (109, .ireturn, 0, 0), (110, .aload_n 0, 0, 0), (111, .getfield 147, 5, 7), (114, .ireturn, 0, 0), (115, .aload_n 0, 0, 0), (116, .invokevirtual 92, 100, 0), (119, .ireturn, 0, 0), (120, .ldc 58, 0, -2000000001), (122, .ireturn, 0, 0)]
def K141 : List Ent := [(0, .aload_n 0, 0, 0), (1, .getfield 32, 5, 4), (4, .ifCond .ne 6, 0, 0), (7, .ldc 76, 0, -2000000002), (9, .ireturn, 0, 0), (10, .aload_n 0, 0, 0), (11, .dup, 0, 0), (12, .getfield 32, 5, 4), (15, .iconst 1, 0, 0), (16, .isub, 0, 0), (17, .putfield 32, 5, 4), (20, .iconst 0, 0, 0), (21, .istore_n 1, 0, 0), (22, .iload_n 1, 0, 0), (23, .sipush 420, 0, 0), (26, .if_icmp .ge 30, 0, 0), (29, .aload_n 0, 0, 0), (30, .getfield 7, 5, 0), (33, .iload_n 1, 0, 0), (34, .aload_n 0, 0, 0), (35, .getfield 13, 5, 1), (38, .sipush 420, 0, 0), (41, .aload_n 0, 0, 0), (42, .getfield 32, 5, 4), (45, .imul, 0, 0), (46, .iload_n 1, 0, 0), (47, .iadd, 0, 0), (48, .iaload, 0, 0), (49, .iastore, 0, 0), (50, .iinc 1 1, 0, 0), (53, .goto (-31), 0, 0), (56, .aload_n 0, 0, 0), (57, .getfield 32, 5, 4), (60, .ireturn, 0, 0)]
def K142 : List Ent := [(0, .iload_n 1, 0, 0), (1, .bipush 32, 0, 0), (3, .bipush 126, 0, 0), (5, .invokestatic 36, 88, 0), (8, .ifCond .ne 6, 0, 0), (11, .ldc 58, 0, -2000000001), (13, .ireturn, 0, 0), (14, .aload_n 0, 0, 0), (15, .getfield 147, 5, 7), (18, .bipush 60, 0, 0), (20, .if_icmp .ne 6, 0, 0), (23, .ldc 59, 0, -2000000003), (25, .ireturn, 0, 0), (26, .aload_n 0, 0, 0), (27, .getfield 22, 5, 6), (30, .aload_n 0, 0, 0), (31, .getfield 147, 5, 7), (34, .iload_n 1, 0, 0), (35, .iastore, 0, 0), (36, .aload_n 0, 0, 0), (37, .dup, 0, 0), (38, .getfield 147, 5, 7), (41, .iconst 1, 0, 0), (42, .iadd, 0, 0), (43, .putfield 147, 5, 7), (46, .aload_n 0, 0, 0), (47, .getfield 147, 5, 7), (50, .ireturn, 0, 0)]
def K143 : List Ent := [(0, .aload_n 0, 0, 0), (1, .getfield 147, 5, 7), (4, .istore_n 1, 0, 0), (5, .aload_n 0, 0, 0), (6, .iconst 0, 0, 0), (7, .putfield 147, 5, 7), (10, .iload_n 1, 0, 0), (11, .ireturn, 0, 0)]
def K144 : List Ent := [(0, .aload_n 0, 0, 0), (1, .getfield 150, 5, 8), (4, .aload_n 0, 0, 0), (5, .getfield 147, 5, 7), (8, .if_icmp .ge 24, 0, 0), (11, .aload_n 0, 0, 0), (12, .getfield 22, 5, 6), (15, .aload_n 0, 0, 0), (16, .getfield 150, 5, 8), (19, .iaload, 0, 0), (20, .iload_n 1, 0, 0), (21, .iload_n 2, 0, 0), (22, .invokestatic 36, 88, 0), (25, .ifCond .eq 7, 0, 0), (28, .iconst 1, 0, 0), (29, .goto 4, 0, 0), (32, .iconst 0, 0, 0), (33, .ireturn, 0, 0)]
def K145 : List Ent := [(0, .aload_n 0, 0, 0), (1, .iload_n 1, 0, 0), (2, .iload_n 1, 0, 0), (3, .invokevirtual 153, 144, 0), (6, .istore_n 2, 0, 0), (7, .aload_n 0, 0, 0), (8, .dup, 0, 0), (9, .getfield 150, 5, 8), (12, .iload_n 2, 0, 0), (13, .ifCond .eq 7, 0, 0), (16, .iconst 1, 0, 0), (17, .goto 4, 0, 0), (20, .iconst 0, 0, 0), (21, .iadd, 0, 0), (22, .putfield 150, 5, 8), (25, .iload_n 2, 0, 0), (26, .ireturn, 0, 0)]
def K146 : List Ent := [(0, .aload_n 0, 0, 0), (1, .getfield 150, 5, 8), (4, .istore_n 2, 0, 0), (5, .aload_n 0, 0, 0), (6, .getfield 25, 5, 14), (9, .iload_n 1, 0, 0), (10, .iconst 0, 0, 0), (11, .iastore, 0, 0), (12, .aload_n 0, 0, 0), (13, .bipush 48, 0, 0), (15, .bipush 57, 0, 0), (17, .invokevirtual 153, 144, 0), (20, .ifCond .eq 54, 0, 0), (23, .aload_n 0, 0, 0), (24, .getfield 150, 5, 8), (27, .iload_n 2, 0, 0), (28, .isub, 0, 0), (29, .iconst 3, 0, 0), (30, .if_icmp .ge 44, 0, 0), (33, .aload_n 0, 0, 0), (34, .getfield 25, 5, 14), (37, .iload_n 1, 0, 0), (38, .bipush 10, 0, 0), (40, .aload_n 0, 0, 0), (41, .getfield 25, 5, 14), (44, .iload_n 1, 0, 0), (45, .iaload, 0, 0), (46, .imul, 0, 0), (47, .aload_n 0, 0, 0), (48, .getfield 22, 5, 6), (51, .aload_n 0, 0, 0), (52, .getfield 150, 5, 8), (55, .iaload, 0, 0), (56, .iadd, 0, 0), (57, .bipush 48, 0, 0), (59, .isub, 0, 0), (60, .iastore, 0, 0), (61, .aload_n 0, 0, 0), (62, .dup, 0, 0), (63, .getfield 150, 5, 8), (66, .iconst 1, 0, 0), (67, .iadd, 0, 0), (68, .putfield 150, 5, 8), (71, .goto (-59), 0, 0), (74, .aload_n 0, 0, 0), (75, .getfield 150, 5, 8), (78, .iload_n 2, 0, 0), (79, .if_icmp .le 7, 0, 0), (82, .iconst 1, 0, 0), (83, .goto 4, 0, 0), (86, .iconst 0, 0, 0), (87, .ireturn, 0, 0)]
def K147 : List Ent := [(0, .iload_n 0, 0, 0), (1, .bipush 112, 0, 0), (3, .if_icmp .ne 7, 0, 0), (6, .iconst 3, 0, 0), (7, .goto 42, 0, 0), (10, .iload_n 0, 0, 0), (11, .bipush 97, 0, 0), (13, .if_icmp .eq 15, 0, 0), (16, .iload_n 0, 0, 0), (17, .bipush 116, 0, 0), (19, .if_icmp .eq 9, 0, 0), (22, .iload_n 0, 0, 0), (23, .bipush 114, 0, 0), (25, .if_icmp .ne 7, 0, 0), (28, .iconst 2, 0, 0), (29, .goto 20, 0, 0), (32, .iload_n 0, 0, 0), (33, .bipush 110, 0, 0), (35, .if_icmp .eq 9, 0, 0), (38, .iload_n 0, 0, 0), (39, .bipush 107, 0, 0), (41, .if_icmp .ne 7, 0, 0), (44, .iconst 1, 0, 0), (45, .goto 4, 0, 0), (48, .iconst 0, 0, 0), (49, .ireturn, 0, 0)]
def K148 : List Ent := [(0, .aload_n 0, 0, 0), (1, .aload_n 0, 0, 0), (2, .bipush 33, 0, 0), (4, .bipush 126, 0, 0), (6, .invokevirtual 153, 144, 0), (9, .ifCond .eq 15, 0, 0), (12, .aload_n 0, 0, 0), (13, .getfield 22, 5, 6), (16, .aload_n 0, 0, 0), (17, .getfield 150, 5, 8), (20, .iaload, 0, 0), (21, .goto 4, 0, 0), (24, .iconst 0, 0, 0), (25, .putfield 156, 5, 13), (28, .aload_n 0, 0, 0), (29, .getfield 156, 5, 13), (32, .invokestatic 159, 147, 0), (35, .istore_n 1, 0, 0), (36, .iload_n 1, 0, 0), (37, .ifCond .ne 5, 0, 0), (40, .iconst 0, 0, 0), (41, .ireturn, 0, 0), (42, .aload_n 0, 0, 0), (43, .dup, 0, 0), (44, .getfield 150, 5, 8), (47, .iconst 1, 0, 0), (48, .iadd, 0, 0), (49, .putfield 150, 5, 8), (52, .aload_n 0, 0, 0), (53, .iconst 0, 0, 0), (54, .invokevirtual 162, 146, 0), (57, .istore_n 2, 0, 0), (58, .iconst 1, 0, 0), (59, .istore_n 3, 0, 0), (60, .iload_n 3, 0, 0), (61, .iload_n 1, 0, 0), (62, .if_icmp .ge 36, 0, 0), (65, .iload_n 2, 0, 0), (66, .ifCond .eq 32, 0, 0), (69, .aload_n 0, 0, 0), (70, .bipush 44, 0, 0), (72, .invokevirtual 165, 145, 0), (75, .ifCond .eq 15, 0, 0), (78, .aload_n 0, 0, 0), (79, .iload_n 3, 0, 0), (80, .invokevirtual 162, 146, 0), (83, .ifCond .eq 7, 0, 0), (86, .iconst 1, 0, 0), (87, .goto 4, 0, 0), (90, .iconst 0, 0, 0), (91, .istore_n 2, 0, 0), (92, .iinc 3 1, 0, 0), (95, .goto (-35), 0, 0), (98, .iload_n 2, 0, 0), (99, .ifCond .eq 16, 0, 0), (102, .aload_n 0, 0, 0), (103, .bipush 59, 0, 0), (105, .invokevirtual 165, 145, 0), (108, .ifCond .eq 7, 0, 0), (111, .iconst 1, 0, 0), (112, .goto 4, 0, 0), (115, .iconst 0, 0, 0), (116, .ireturn, 0, 0)]
def K149 : List Ent := [(0, .aload_n 0, 0, 0), (1, .getfield 156, 5, 13), (4, .lookupswitch 137 #[(97, 63), (110, 52), (112, 114), (114, 97), (116, 80)], 52, 0), (56, .aload_n 0, 0, 0), (57, .aload_n 0, 0, 0), (58, .getfield 25, 5, 14), (61, .iconst 0, 0, 0), (62, .iaload, 0, 0), (63, .invokevirtual 168, 105, 0), (66, .ireturn, 0, 0), (67, .aload_n 0, 0, 0), (68, .aload_n 0, 0, 0), (69, .getfield 25, 5, 14), (72, .iconst 0, 0, 0), (73, .iaload, 0, 0), (74, .aload_n 0, 0, 0), (75, .getfield 25, 5, 14), (78, .iconst 1, 0, 0), (79, .iaload, 0, 0), (80, .invokevirtual 171, 108, 0), (83, .ireturn, 0, 0), (84, .aload_n 0, 0, 0), (85, .aload_n 0, 0, 0), (86, .getfield 25, 5, 14), (89, .iconst 0, 0, 0), (90, .iaload, 0, 0), (91, .aload_n 0, 0, 0), (92, .getfield 25, 5, 14), (95, .iconst 1, 0, 0), (96, .iaload, 0, 0), (97, .invokevirtual 174, 109, 0), (100, .ireturn, 0, 0), (101, .aload_n 0, 0, 0), (102, .aload_n 0, 0, 0), (103, .getfield 25, 5, 14), (106, .iconst 0, 0, 0), (107, .iaload, 0, 0), (108, .aload_n 0, 0, 0), (109, .getfield 25, 5, 14), (112, .iconst 1, 0, 0), (113, .iaload, 0, 0), (114, .invokevirtual 177, 110, 0), (117, .ireturn, 0, 0), (118, .aload_n 0, 0, 0), (119, .aload_n 0, 0, 0), (120, .getfield 25, 5, 14), (123, .iconst 0, 0, 0), (124, .iaload, 0, 0), (125, .aload_n 0, 0, 0), (126, .getfield 25, 5, 14), (129, .iconst 1, 0, 0), (130, .iaload, 0, 0), (131, .aload_n 0, 0, 0), (132, .getfield 25, 5, 14), (135, .iconst 2, 0, 0), (136, .iaload, 0, 0), (137, .invokevirtual 180, 118, 0), (140, .ireturn, 0, 0), (141, .aload_n 0, 0, 0), (142, .aload_n 0, 0, 0), (143, .getfield 25, 5, 14), (146, .iconst 0, 0, 0), (147, .iaload, 0, 0), (148, .invokevirtual 183, 122, 0), (151, .ireturn, 0, 0)]
def K150 : List Ent := [(0, .aload_n 0, 0, 0), (1, .iconst 1, 0, 0), (2, .putfield 28, 5, 5), (5, .aload_n 0, 0, 0), (6, .iconst 0, 0, 0), (7, .putfield 150, 5, 8), (10, .aload_n 0, 0, 0), (11, .iconst 0, 0, 0), (12, .putfield 186, 5, 9), (15, .aload_n 0, 0, 0), (16, .iconst 0, 0, 0), (17, .putfield 189, 5, 12), (20, .iconst 1, 0, 0), (21, .istore_n 1, 0, 0), (22, .aload_n 0, 0, 0), (23, .getfield 150, 5, 8), (26, .aload_n 0, 0, 0), (27, .getfield 147, 5, 7), (30, .if_icmp .ge 96, 0, 0), (33, .iload_n 1, 0, 0), (34, .ifCond .eq 92, 0, 0), (37, .aload_n 0, 0, 0), (38, .aload_n 0, 0, 0), (39, .getfield 150, 5, 8), (42, .putfield 186, 5, 9), (45, .aload_n 0, 0, 0), (46, .invokevirtual 192, 148, 0), (49, .istore_n 2, 0, 0), (50, .iload_n 2, 0, 0), (51, .ifCond .eq 10, 0, 0), (54, .aload_n 0, 0, 0), (55, .invokevirtual 196, 149, 0), (58, .goto 4, 0, 0), (61, .iconst 0, 0, 0), (62, .istore_n 3, 0, 0), (63, .iload_n 2, 0, 0), (64, .ifCond .eq 13, 0, 0), (67, .iload_n 3, 0, 0), (68, .ldc 58, 0, -2000000001), (70, .if_icmp .le 7, 0, 0), (73, .iconst 1, 0, 0), (74, .goto 4, 0, 0), (77, .iconst 0, 0, 0), (78, .istore_n 1, 0, 0), (79, .aload_n 0, 0, 0), (80, .iload_n 2, 0, 0), (81, .ifCond .eq 7, 0, 0), (84, .iconst 2, 0, 0), (85, .goto 4, 0, 0), (88, .iconst 1, 0, 0), (89, .putfield 199, 5, 10), (92, .aload_n 0, 0, 0), (93, .iload_n 2, 0, 0), (94, .ifCond .eq 7, 0, 0), (97, .iload_n 3, 0, 0), (98, .goto 12, 0, 0), (101, .aload_n 0, 0, 0), (102, .getfield 150, 5, 8), (105, .aload_n 0, 0, 0), (106, .getfield 186, 5, 9), (109, .isub, 0, 0), (110, .putfield 202, 5, 11), (113, .aload_n 0, 0, 0), (114, .dup, 0, 0), (115, .getfield 189, 5, 12), (118, .iconst 1, 0, 0), (119, .iadd, 0, 0), (120, .putfield 189, 5, 12), (123, .goto (-101), 0, 0), (126, .aload_n 0, 0, 0), (127, .iconst 0, 0, 0), (128, .putfield 28, 5, 5), (131, .iload_n 1, 0, 0), (132, .ireturn, 0, 0)]
def K151 : List Ent := [(0, .iload_n 1, 0, 0), (1, .iconst 0, 0, 0), (2, .iconst 2, 0, 0), (3, .invokestatic 36, 88, 0), (6, .ifCond .ne 6, 0, 0), (9, .ldc 58, 0, -2000000001), (11, .ireturn, 0, 0), (12, .aload_n 0, 0, 0), (13, .getfield 7, 5, 0), (16, .aload_n 0, 0, 0), (17, .getfield 16, 5, 2), (20, .invokestatic 134, 89, 0), (23, .aload_n 0, 0, 0), (24, .invokevirtual 205, 150, 0), (27, .istore_n 2, 0, 0), (28, .aload_n 0, 0, 0), (29, .getfield 16, 5, 2), (32, .aload_n 0, 0, 0), (33, .getfield 7, 5, 0), (36, .invokestatic 134, 89, 0), (39, .iload_n 2, 0, 0), (40, .ifCond .eq 8, 0, 0), (43, .ldc 126, 0, -2000000004), (45, .goto 30, 0, 0), (48, .iload_n 1, 0, 0), (49, .ifCond .ne 10, 0, 0), (52, .aload_n 0, 0, 0), (53, .getfield 186, 5, 9), (56, .goto 19, 0, 0), (59, .iload_n 1, 0, 0), (60, .iconst 1, 0, 0), (61, .if_icmp .ne 10, 0, 0), (64, .aload_n 0, 0, 0), (65, .getfield 199, 5, 10), (68, .goto 7, 0, 0), (71, .aload_n 0, 0, 0), (72, .getfield 202, 5, 11), (75, .ireturn, 0, 0)]
def K152 : List Ent := [(0, .aload_n 0, 0, 0), (1, .getfield 7, 5, 0), (4, .aload_n 0, 0, 0), (5, .getfield 16, 5, 2), (8, .invokestatic 134, 89, 0), (11, .aload_n 0, 0, 0), (12, .invokevirtual 205, 150, 0), (15, .istore_n 1, 0, 0), (16, .aload_n 0, 0, 0), (17, .getfield 16, 5, 2), (20, .aload_n 0, 0, 0), (21, .getfield 7, 5, 0), (24, .invokestatic 134, 89, 0), (27, .iload_n 1, 0, 0), (28, .ifCond .ne 6, 0, 0), (31, .ldc 76, 0, -2000000002), (33, .ireturn, 0, 0), (34, .aload_n 0, 0, 0), (35, .invokevirtual 60, 90, 0), (38, .aload_n 0, 0, 0), (39, .invokevirtual 205, 150, 0), (42, .ifCond .eq 10, 0, 0), (45, .aload_n 0, 0, 0), (46, .getfield 189, 5, 12), (49, .goto 5, 0, 0), (52, .ldc 126, 0, -2000000004), (54, .ireturn, 0, 0)]
def K153 : List Ent := [(0, .iload_n 0, 0, 0), (1, .iload_n 0, 0, 0), (2, .iconst 1, 0, 0), (3, .iushr, 0, 0), (4, .ldc_w 265, 0, 1431655765), (7, .iand, 0, 0), (8, .isub, 0, 0), (9, .istore_n 0, 0, 0), (10, .iload_n 0, 0, 0), (11, .ldc_w 266, 0, 858993459), (14, .iand, 0, 0), (15, .iload_n 0, 0, 0), (16, .iconst 2, 0, 0), (17, .iushr, 0, 0), (18, .ldc_w 266, 0, 858993459), (21, .iand, 0, 0), (22, .iadd, 0, 0), (23, .istore_n 0, 0, 0), (24, .iload_n 0, 0, 0), (25, .iload_n 0, 0, 0), (26, .iconst 4, 0, 0), (27, .iushr, 0, 0), (28, .iadd, 0, 0), (29, .ldc_w 267, 0, 252645135), (32, .iand, 0, 0), (33, .istore_n 0, 0, 0), (34, .iload_n 0, 0, 0), (35, .iload_n 0, 0, 0), (36, .bipush 8, 0, 0), (38, .iushr, 0, 0), (39, .iadd, 0, 0), (40, .istore_n 0, 0, 0), (41, .iload_n 0, 0, 0), (42, .iload_n 0, 0, 0), (43, .bipush 16, 0, 0), (45, .iushr, 0, 0), (46, .iadd, 0, 0), (47, .istore_n 0, 0, 0), (48, .iload_n 0, 0, 0), (49, .bipush 63, 0, 0), (51, .iand, 0, 0), (52, .ireturn, 0, 0)]
def K154_0 : List Ent := [(0, .new 7, 4, 0), (3, .dup, 0, 0), (4, .invokespecial 9, 54, 0), (7, .astore_n 1, 0, 0), (8, .new 10, 5, 0), (11, .dup, 0, 0), (12, .invokespecial 12, 87, 0), (15, .astore_n 2, 0, 0), (16, .iconst 0, 0, 0), (17, .istore_n 3, 0, 0), (18, .iload_n 3, 0, 0), (19, .aload_n 0, 0, 0), (20, .arraylength, 0, 0), (21, .iconst 4, 0, 0), (22, .isub, 0, 0), (23, .if_icmp .gt 823, 0, 0), (26, .aload_n 0, 0, 0), (27, .iload_n 3, 0, 0), (28, .iaload, 0, 0), (29, .bipush 31, 0, 0), (31, .iand, 0, 0), (32, .tableswitch 808 0 25 #[120, 143, 176, 209, 242, 275, 298, 321, 354, 397, 420, 453, 496, 529, 562, 605, 618, 631, 644, 677, 700, 723, 736, 759, 772, 795], 120, 0), (152, .aload_n 1, 0, 0), (153, .aload_n 0, 0, 0), (154, .iload_n 3, 0, 0), (155, .iconst 1, 0, 0), (156, .iadd, 0, 0), (157, .iaload, 0, 0), (158, .invokevirtual 13, 55, 0), (161, .aload_n 2, 0, 0), (162, .aload_n 0, 0, 0), (163, .iload_n 3, 0, 0), (164, .iconst 1, 0, 0), (165, .iadd, 0, 0), (166, .iaload, 0, 0), (167, .invokevirtual 17, 105, 0), (170, .if_icmp .eq 670, 0, 0), (173, .iconst 0, 0, 0), (174, .ireturn, 0, 0), (175, .aload_n 1, 0, 0)]
def K154_1 : List Ent := [(176, .aload_n 0, 0, 0), (177, .iload_n 3, 0, 0), (178, .iconst 1, 0, 0), (179, .iadd, 0, 0), (180, .iaload, 0, 0), (181, .aload_n 0, 0, 0), (182, .iload_n 3, 0, 0), (183, .iconst 2, 0, 0), (184, .iadd, 0, 0), (185, .iaload, 0, 0), (186, .invokevirtual 18, 56, 0), (189, .aload_n 2, 0, 0), (190, .aload_n 0, 0, 0), (191, .iload_n 3, 0, 0), (192, .iconst 1, 0, 0), (193, .iadd, 0, 0), (194, .iaload, 0, 0), (195, .aload_n 0, 0, 0), (196, .iload_n 3, 0, 0), (197, .iconst 2, 0, 0), (198, .iadd, 0, 0), (199, .iaload, 0, 0), (200, .invokevirtual 22, 108, 0), (203, .if_icmp .eq 637, 0, 0), (206, .iconst 0, 0, 0), (207, .ireturn, 0, 0), (208, .aload_n 1, 0, 0), (209, .aload_n 0, 0, 0), (210, .iload_n 3, 0, 0), (211, .iconst 1, 0, 0), (212, .iadd, 0, 0), (213, .iaload, 0, 0), (214, .aload_n 0, 0, 0), (215, .iload_n 3, 0, 0), (216, .iconst 2, 0, 0), (217, .iadd, 0, 0), (218, .iaload, 0, 0), (219, .invokevirtual 23, 57, 0), (222, .aload_n 2, 0, 0), (223, .aload_n 0, 0, 0)]
def K154_2 : List Ent := [(224, .iload_n 3, 0, 0), (225, .iconst 1, 0, 0), (226, .iadd, 0, 0), (227, .iaload, 0, 0), (228, .aload_n 0, 0, 0), (229, .iload_n 3, 0, 0), (230, .iconst 2, 0, 0), (231, .iadd, 0, 0), (232, .iaload, 0, 0), (233, .invokevirtual 26, 109, 0), (236, .if_icmp .eq 604, 0, 0), (239, .iconst 0, 0, 0), (240, .ireturn, 0, 0), (241, .aload_n 1, 0, 0), (242, .aload_n 0, 0, 0), (243, .iload_n 3, 0, 0), (244, .iconst 1, 0, 0), (245, .iadd, 0, 0), (246, .iaload, 0, 0), (247, .aload_n 0, 0, 0), (248, .iload_n 3, 0, 0), (249, .iconst 2, 0, 0), (250, .iadd, 0, 0), (251, .iaload, 0, 0), (252, .invokevirtual 27, 58, 0), (255, .aload_n 2, 0, 0), (256, .aload_n 0, 0, 0), (257, .iload_n 3, 0, 0), (258, .iconst 1, 0, 0), (259, .iadd, 0, 0), (260, .iaload, 0, 0), (261, .aload_n 0, 0, 0), (262, .iload_n 3, 0, 0), (263, .iconst 2, 0, 0), (264, .iadd, 0, 0), (265, .iaload, 0, 0), (266, .invokevirtual 30, 110, 0), (269, .if_icmp .eq 571, 0, 0), (272, .iconst 0, 0, 0), (273, .ireturn, 0, 0)]
def K154_3 : List Ent := [(274, .aload_n 1, 0, 0), (275, .aload_n 0, 0, 0), (276, .iload_n 3, 0, 0), (277, .iconst 1, 0, 0), (278, .iadd, 0, 0), (279, .iaload, 0, 0), (280, .aload_n 0, 0, 0), (281, .iload_n 3, 0, 0), (282, .iconst 2, 0, 0), (283, .iadd, 0, 0), (284, .iaload, 0, 0), (285, .invokevirtual 31, 59, 0), (288, .aload_n 2, 0, 0), (289, .aload_n 0, 0, 0), (290, .iload_n 3, 0, 0), (291, .iconst 1, 0, 0), (292, .iadd, 0, 0), (293, .iaload, 0, 0), (294, .aload_n 0, 0, 0), (295, .iload_n 3, 0, 0), (296, .iconst 2, 0, 0), (297, .iadd, 0, 0), (298, .iaload, 0, 0), (299, .invokevirtual 34, 111, 0), (302, .if_icmp .eq 538, 0, 0), (305, .iconst 0, 0, 0), (306, .ireturn, 0, 0), (307, .aload_n 1, 0, 0), (308, .aload_n 0, 0, 0), (309, .iload_n 3, 0, 0), (310, .iconst 1, 0, 0), (311, .iadd, 0, 0), (312, .iaload, 0, 0), (313, .invokevirtual 35, 60, 0), (316, .aload_n 2, 0, 0), (317, .aload_n 0, 0, 0), (318, .iload_n 3, 0, 0), (319, .iconst 1, 0, 0), (320, .iadd, 0, 0), (321, .iaload, 0, 0)]
def K154_4 : List Ent := [(322, .invokevirtual 38, 113, 0), (325, .if_icmp .eq 515, 0, 0), (328, .iconst 0, 0, 0), (329, .ireturn, 0, 0), (330, .aload_n 1, 0, 0), (331, .aload_n 0, 0, 0), (332, .iload_n 3, 0, 0), (333, .iconst 1, 0, 0), (334, .iadd, 0, 0), (335, .iaload, 0, 0), (336, .invokevirtual 39, 61, 0), (339, .aload_n 2, 0, 0), (340, .aload_n 0, 0, 0), (341, .iload_n 3, 0, 0), (342, .iconst 1, 0, 0), (343, .iadd, 0, 0), (344, .iaload, 0, 0), (345, .invokevirtual 42, 115, 0), (348, .if_icmp .eq 492, 0, 0), (351, .iconst 0, 0, 0), (352, .ireturn, 0, 0), (353, .aload_n 1, 0, 0), (354, .aload_n 0, 0, 0), (355, .iload_n 3, 0, 0), (356, .iconst 1, 0, 0), (357, .iadd, 0, 0), (358, .iaload, 0, 0), (359, .aload_n 0, 0, 0), (360, .iload_n 3, 0, 0), (361, .iconst 2, 0, 0), (362, .iadd, 0, 0), (363, .iaload, 0, 0), (364, .invokevirtual 43, 62, 0), (367, .aload_n 2, 0, 0), (368, .aload_n 0, 0, 0), (369, .iload_n 3, 0, 0), (370, .iconst 1, 0, 0), (371, .iadd, 0, 0), (372, .iaload, 0, 0), (373, .aload_n 0, 0, 0)]
def K154_5 : List Ent := [(374, .iload_n 3, 0, 0), (375, .iconst 2, 0, 0), (376, .iadd, 0, 0), (377, .iaload, 0, 0), (378, .invokevirtual 46, 116, 0), (381, .if_icmp .eq 459, 0, 0), (384, .iconst 0, 0, 0), (385, .ireturn, 0, 0), (386, .aload_n 1, 0, 0), (387, .aload_n 0, 0, 0), (388, .iload_n 3, 0, 0), (389, .iconst 1, 0, 0), (390, .iadd, 0, 0), (391, .iaload, 0, 0), (392, .aload_n 0, 0, 0), (393, .iload_n 3, 0, 0), (394, .iconst 2, 0, 0), (395, .iadd, 0, 0), (396, .iaload, 0, 0), (397, .aload_n 0, 0, 0), (398, .iload_n 3, 0, 0), (399, .iconst 3, 0, 0), (400, .iadd, 0, 0), (401, .iaload, 0, 0), (402, .invokevirtual 47, 63, 0), (405, .aload_n 2, 0, 0), (406, .aload_n 0, 0, 0), (407, .iload_n 3, 0, 0), (408, .iconst 1, 0, 0), (409, .iadd, 0, 0), (410, .iaload, 0, 0), (411, .aload_n 0, 0, 0), (412, .iload_n 3, 0, 0), (413, .iconst 2, 0, 0), (414, .iadd, 0, 0), (415, .iaload, 0, 0), (416, .aload_n 0, 0, 0), (417, .iload_n 3, 0, 0), (418, .iconst 3, 0, 0), (419, .iadd, 0, 0)]
def K154_6 : List Ent := [(420, .iaload, 0, 0), (421, .invokevirtual 51, 118, 0), (424, .if_icmp .eq 416, 0, 0), (427, .iconst 0, 0, 0), (428, .ireturn, 0, 0), (429, .aload_n 1, 0, 0), (430, .aload_n 0, 0, 0), (431, .iload_n 3, 0, 0), (432, .iconst 1, 0, 0), (433, .iadd, 0, 0), (434, .iaload, 0, 0), (435, .invokevirtual 52, 64, 0), (438, .aload_n 2, 0, 0), (439, .aload_n 0, 0, 0), (440, .iload_n 3, 0, 0), (441, .iconst 1, 0, 0), (442, .iadd, 0, 0), (443, .iaload, 0, 0), (444, .invokevirtual 55, 122, 0), (447, .if_icmp .eq 393, 0, 0), (450, .iconst 0, 0, 0), (451, .ireturn, 0, 0), (452, .aload_n 1, 0, 0), (453, .aload_n 0, 0, 0), (454, .iload_n 3, 0, 0), (455, .iconst 1, 0, 0), (456, .iadd, 0, 0), (457, .iaload, 0, 0), (458, .aload_n 0, 0, 0), (459, .iload_n 3, 0, 0), (460, .iconst 2, 0, 0), (461, .iadd, 0, 0), (462, .iaload, 0, 0), (463, .invokevirtual 56, 65, 0), (466, .aload_n 2, 0, 0), (467, .aload_n 0, 0, 0), (468, .iload_n 3, 0, 0), (469, .iconst 1, 0, 0), (470, .iadd, 0, 0), (471, .iaload, 0, 0)]
def K154_7 : List Ent := [(472, .aload_n 0, 0, 0), (473, .iload_n 3, 0, 0), (474, .iconst 2, 0, 0), (475, .iadd, 0, 0), (476, .iaload, 0, 0), (477, .invokevirtual 59, 125, 0), (480, .if_icmp .eq 360, 0, 0), (483, .iconst 0, 0, 0), (484, .ireturn, 0, 0), (485, .aload_n 1, 0, 0), (486, .aload_n 0, 0, 0), (487, .iload_n 3, 0, 0), (488, .iconst 1, 0, 0), (489, .iadd, 0, 0), (490, .iaload, 0, 0), (491, .aload_n 0, 0, 0), (492, .iload_n 3, 0, 0), (493, .iconst 2, 0, 0), (494, .iadd, 0, 0), (495, .iaload, 0, 0), (496, .aload_n 0, 0, 0), (497, .iload_n 3, 0, 0), (498, .iconst 3, 0, 0), (499, .iadd, 0, 0), (500, .iaload, 0, 0), (501, .invokevirtual 60, 66, 0), (504, .aload_n 2, 0, 0), (505, .aload_n 0, 0, 0), (506, .iload_n 3, 0, 0), (507, .iconst 1, 0, 0), (508, .iadd, 0, 0), (509, .iaload, 0, 0), (510, .aload_n 0, 0, 0), (511, .iload_n 3, 0, 0), (512, .iconst 2, 0, 0), (513, .iadd, 0, 0), (514, .iaload, 0, 0), (515, .aload_n 0, 0, 0), (516, .iload_n 3, 0, 0), (517, .iconst 3, 0, 0)]
def K154_8 : List Ent := [(518, .iadd, 0, 0), (519, .iaload, 0, 0), (520, .invokevirtual 63, 126, 0), (523, .if_icmp .eq 317, 0, 0), (526, .iconst 0, 0, 0), (527, .ireturn, 0, 0), (528, .aload_n 1, 0, 0), (529, .aload_n 0, 0, 0), (530, .iload_n 3, 0, 0), (531, .iconst 1, 0, 0), (532, .iadd, 0, 0), (533, .iaload, 0, 0), (534, .aload_n 0, 0, 0), (535, .iload_n 3, 0, 0), (536, .iconst 2, 0, 0), (537, .iadd, 0, 0), (538, .iaload, 0, 0), (539, .invokevirtual 64, 67, 0), (542, .aload_n 2, 0, 0), (543, .aload_n 0, 0, 0), (544, .iload_n 3, 0, 0), (545, .iconst 1, 0, 0), (546, .iadd, 0, 0), (547, .iaload, 0, 0), (548, .aload_n 0, 0, 0), (549, .iload_n 3, 0, 0), (550, .iconst 2, 0, 0), (551, .iadd, 0, 0), (552, .iaload, 0, 0), (553, .invokevirtual 67, 128, 0), (556, .if_icmp .eq 284, 0, 0), (559, .iconst 0, 0, 0), (560, .ireturn, 0, 0), (561, .aload_n 1, 0, 0), (562, .aload_n 0, 0, 0), (563, .iload_n 3, 0, 0), (564, .iconst 1, 0, 0), (565, .iadd, 0, 0), (566, .iaload, 0, 0), (567, .aload_n 0, 0, 0)]
def K154_9 : List Ent := [(568, .iload_n 3, 0, 0), (569, .iconst 2, 0, 0), (570, .iadd, 0, 0), (571, .iaload, 0, 0), (572, .invokevirtual 68, 68, 0), (575, .aload_n 2, 0, 0), (576, .aload_n 0, 0, 0), (577, .iload_n 3, 0, 0), (578, .iconst 1, 0, 0), (579, .iadd, 0, 0), (580, .iaload, 0, 0), (581, .aload_n 0, 0, 0), (582, .iload_n 3, 0, 0), (583, .iconst 2, 0, 0), (584, .iadd, 0, 0), (585, .iaload, 0, 0), (586, .invokevirtual 71, 130, 0), (589, .if_icmp .eq 251, 0, 0), (592, .iconst 0, 0, 0), (593, .ireturn, 0, 0), (594, .aload_n 1, 0, 0), (595, .aload_n 0, 0, 0), (596, .iload_n 3, 0, 0), (597, .iconst 1, 0, 0), (598, .iadd, 0, 0), (599, .iaload, 0, 0), (600, .aload_n 0, 0, 0), (601, .iload_n 3, 0, 0), (602, .iconst 2, 0, 0), (603, .iadd, 0, 0), (604, .iaload, 0, 0), (605, .aload_n 0, 0, 0), (606, .iload_n 3, 0, 0), (607, .iconst 3, 0, 0), (608, .iadd, 0, 0), (609, .iaload, 0, 0), (610, .invokevirtual 72, 69, 0), (613, .aload_n 2, 0, 0), (614, .aload_n 0, 0, 0), (615, .iload_n 3, 0, 0)]
def K154_10 : List Ent := [(616, .iconst 1, 0, 0), (617, .iadd, 0, 0), (618, .iaload, 0, 0), (619, .aload_n 0, 0, 0), (620, .iload_n 3, 0, 0), (621, .iconst 2, 0, 0), (622, .iadd, 0, 0), (623, .iaload, 0, 0), (624, .aload_n 0, 0, 0), (625, .iload_n 3, 0, 0), (626, .iconst 3, 0, 0), (627, .iadd, 0, 0), (628, .iaload, 0, 0), (629, .invokevirtual 75, 132, 0), (632, .if_icmp .eq 208, 0, 0), (635, .iconst 0, 0, 0), (636, .ireturn, 0, 0), (637, .aload_n 1, 0, 0), (638, .invokevirtual 76, 70, 0), (641, .aload_n 2, 0, 0), (642, .invokevirtual 80, 134, 0), (645, .if_icmp .eq 195, 0, 0), (648, .iconst 0, 0, 0), (649, .ireturn, 0, 0), (650, .aload_n 1, 0, 0), (651, .invokevirtual 81, 71, 0), (654, .aload_n 2, 0, 0), (655, .invokevirtual 84, 135, 0), (658, .if_icmp .eq 182, 0, 0), (661, .iconst 0, 0, 0), (662, .ireturn, 0, 0), (663, .aload_n 1, 0, 0), (664, .invokevirtual 85, 72, 0), (667, .aload_n 2, 0, 0), (668, .invokevirtual 88, 137, 0), (671, .if_icmp .eq 169, 0, 0), (674, .iconst 0, 0, 0), (675, .ireturn, 0, 0), (676, .aload_n 1, 0, 0), (677, .aload_n 0, 0, 0)]
def K154_11 : List Ent := [(678, .iload_n 3, 0, 0), (679, .iconst 1, 0, 0), (680, .iadd, 0, 0), (681, .iaload, 0, 0), (682, .aload_n 0, 0, 0), (683, .iload_n 3, 0, 0), (684, .iconst 2, 0, 0), (685, .iadd, 0, 0), (686, .iaload, 0, 0), (687, .invokevirtual 89, 73, 0), (690, .aload_n 2, 0, 0), (691, .aload_n 0, 0, 0), (692, .iload_n 3, 0, 0), (693, .iconst 1, 0, 0), (694, .iadd, 0, 0), (695, .iaload, 0, 0), (696, .aload_n 0, 0, 0), (697, .iload_n 3, 0, 0), (698, .iconst 2, 0, 0), (699, .iadd, 0, 0), (700, .iaload, 0, 0), (701, .invokevirtual 92, 138, 0), (704, .if_icmp .eq 136, 0, 0), (707, .iconst 0, 0, 0), (708, .ireturn, 0, 0), (709, .aload_n 1, 0, 0), (710, .aload_n 0, 0, 0), (711, .iload_n 3, 0, 0), (712, .iconst 1, 0, 0), (713, .iadd, 0, 0), (714, .iaload, 0, 0), (715, .invokevirtual 93, 74, 0), (718, .aload_n 2, 0, 0), (719, .aload_n 0, 0, 0), (720, .iload_n 3, 0, 0), (721, .iconst 1, 0, 0), (722, .iadd, 0, 0), (723, .iaload, 0, 0), (724, .invokevirtual 96, 139, 0), (727, .if_icmp .eq 113, 0, 0)]
def K154_12 : List Ent := [(730, .iconst 0, 0, 0), (731, .ireturn, 0, 0), (732, .aload_n 1, 0, 0), (733, .aload_n 0, 0, 0), (734, .iload_n 3, 0, 0), (735, .iconst 1, 0, 0), (736, .iadd, 0, 0), (737, .iaload, 0, 0), (738, .invokevirtual 97, 75, 0), (741, .aload_n 2, 0, 0), (742, .aload_n 0, 0, 0), (743, .iload_n 3, 0, 0), (744, .iconst 1, 0, 0), (745, .iadd, 0, 0), (746, .iaload, 0, 0), (747, .invokevirtual 100, 140, 0), (750, .if_icmp .eq 90, 0, 0), (753, .iconst 0, 0, 0), (754, .ireturn, 0, 0), (755, .aload_n 1, 0, 0), (756, .invokevirtual 101, 76, 0), (759, .aload_n 2, 0, 0), (760, .invokevirtual 104, 141, 0), (763, .if_icmp .eq 77, 0, 0), (766, .iconst 0, 0, 0), (767, .ireturn, 0, 0), (768, .aload_n 1, 0, 0), (769, .aload_n 0, 0, 0), (770, .iload_n 3, 0, 0), (771, .iconst 1, 0, 0), (772, .iadd, 0, 0), (773, .iaload, 0, 0), (774, .invokevirtual 105, 77, 0), (777, .aload_n 2, 0, 0), (778, .aload_n 0, 0, 0), (779, .iload_n 3, 0, 0), (780, .iconst 1, 0, 0), (781, .iadd, 0, 0), (782, .iaload, 0, 0), (783, .invokevirtual 108, 142, 0)]
def K154_13 : List Ent := [(786, .if_icmp .eq 54, 0, 0), (789, .iconst 0, 0, 0), (790, .ireturn, 0, 0), (791, .aload_n 1, 0, 0), (792, .invokevirtual 109, 78, 0), (795, .aload_n 2, 0, 0), (796, .invokevirtual 112, 143, 0), (799, .if_icmp .eq 41, 0, 0), (802, .iconst 0, 0, 0), (803, .ireturn, 0, 0), (804, .aload_n 1, 0, 0), (805, .aload_n 0, 0, 0), (806, .iload_n 3, 0, 0), (807, .iconst 1, 0, 0), (808, .iadd, 0, 0), (809, .iaload, 0, 0), (810, .invokevirtual 113, 79, 0), (813, .aload_n 2, 0, 0), (814, .aload_n 0, 0, 0), (815, .iload_n 3, 0, 0), (816, .iconst 1, 0, 0), (817, .iadd, 0, 0), (818, .iaload, 0, 0), (819, .invokevirtual 116, 151, 0), (822, .if_icmp .eq 18, 0, 0), (825, .iconst 0, 0, 0), (826, .ireturn, 0, 0), (827, .aload_n 1, 0, 0), (828, .invokevirtual 117, 80, 0), (831, .aload_n 2, 0, 0), (832, .invokevirtual 120, 152, 0), (835, .if_icmp .eq 5, 0, 0), (838, .iconst 0, 0, 0), (839, .ireturn, 0, 0), (840, .iinc 3 4, 0, 0), (843, .goto (-825), 0, 0), (846, .iconst 1, 0, 0), (847, .ireturn, 0, 0)]
def K154 : List Ent := K154_0 ++ (K154_1 ++ (K154_2 ++ (K154_3 ++ (K154_4 ++ (K154_5 ++ (K154_6 ++ (K154_7 ++ (K154_8 ++ (K154_9 ++ (K154_10 ++ (K154_11 ++ (K154_12 ++ (K154_13)))))))))))))
def KL_0 : List (List Ent) := [K0, K1, K2, K3, K4, K5, K6, K7, K8, K9, K10, K11, K12, K13, K14, K15, K16, K17, K18, K19]
def KL_1 : List (List Ent) := [K20, K21, K22, K23, K24, K25, K26, K27, K28, K29, K30, K31, K32, K33, K34, K35, K36, K37, K38, K39]
def KL_2 : List (List Ent) := [K40, K41, K42, K43, K44, K45, K46, K47, K48, K49, K50, K51, K52, K53, K54, K55, K56, K57, K58, K59]
def KL_3 : List (List Ent) := [K60, K61, K62, K63, K64, K65, K66, K67, K68, K69, K70, K71, K72, K73, K74, K75, K76, K77, K78, K79]
def KL_4 : List (List Ent) := [K80, K81, K82, K83, K84, K85, K86, K87, K88, K89, K90, K91, K92, K93, K94, K95, K96, K97, K98, K99]
def KL_5 : List (List Ent) := [K100, K101, K102, K103, K104, K105, K106, K107, K108, K109, K110, K111, K112, K113, K114, K115, K116, K117, K118, K119]
def KL_6 : List (List Ent) := [K120, K121, K122, K123, K124, K125, K126, K127, K128, K129, K130, K131, K132, K133, K134, K135, K136, K137, K138, K139]
def KL_7 : List (List Ent) := [K140, K141, K142, K143, K144, K145, K146, K147, K148, K149, K150, K151, K152, K153, K154]
def KL : List (List Ent) := KL_0 ++ (KL_1 ++ (KL_2 ++ (KL_3 ++ (KL_4 ++ (KL_5 ++ (KL_6 ++ (KL_7)))))))
def kOf (y : Nat) : List Ent := KL.getD y []
def vD : vw_C := (RX0, TX0, 0)
def vAt (c : Nat) : vw_C := vwCl.getD c vD
/-- the length of an instruction -/
def ilen (e : Ent) : Nat := match e.2.1 with
  | .bipush _ | .iload _ | .aload _ | .istore _ | .astore _ | .ldc _ | .newarray _ => 2
  | .sipush _ | .iinc _ _ | .ldc_w _ | .getfield _ | .putfield _ | .invokevirtual _ | .invokestatic _ | .invokespecial _ | .new _ | .anewarray _ | .goto _ | .ifCond _ _ | .if_icmp _ _ | .ifnull _ | .ifnonnull _ => 3
  | .tableswitch _ _ _ _ | .lookupswitch _ _ => e.2.2.1
  | _ => 1
def ACP : Nat := 1000
def OBJ : Nat := 1001
def aKind (k : Nat) : String := if k = 1 then RX0 else if k = 2 then RX1 else RX3
def linkW (y : Nat) (i : Nat) (e : Ent) : Cond := if e.2.2.2 = 1 then .methodLinkNest (mOwn y) i (mName e.2.2.1) RX4 else .methodLink (mOwn y) i (mName e.2.2.1)
/-- the words that an instruction asks of the tables -/
def needs (y : Nat) (e : Ent) : List Cond := match e.2.1 with
  | .getfield i | .putfield i => [.fieldLink (mOwn y) i ((vAt e.2.2.1).2.1 e.2.2.2.toNat).1 ((vAt e.2.2.1).2.1 e.2.2.2.toNat).2.1 ((vAt e.2.2.1).2.1 e.2.2.2.toNat).2.2.1]
  | .ldc i | .ldc_w i => [.constant (mOwn y) i (Int32.ofInt e.2.2.2)]
  | .invokevirtual i => [linkW y i e, .code (mName e.2.2.1) (mCode e.2.2.1) (mMaxL e.2.2.1) (mRet e.2.2.1), .initialized (mName e.2.2.1).cls, .instanceMethod (mName e.2.2.1), .selects (mName e.2.2.1).cls (mName e.2.2.1) (mName e.2.2.1)]
  | .invokestatic i => if e.2.2.1 = ACP then [.methodLink (mOwn y) i arraycopyName, .native arraycopyName, .static arraycopyName, .initialized "java/lang/System"]
      else [linkW y i e, .code (mName e.2.2.1) (mCode e.2.2.1) (mMaxL e.2.2.1) (mRet e.2.2.1), .initialized (mName e.2.2.1).cls, .static (mName e.2.2.1)]
  | .invokespecial i => if e.2.2.1 = OBJ then [.methodLink (mOwn y) i objectInit, .instanceMethod objectInit, .code objectInit ⟨#[0xb1]⟩ 1 none]
      else [linkW y i e, .code (mName e.2.2.1) (mCode e.2.2.1) (mMaxL e.2.2.1) (mRet e.2.2.1), .initialized (mName e.2.2.1).cls, .instanceMethod (mName e.2.2.1)]
  | .new i => [.classLink (mOwn y) i (vAt e.2.2.1).1, .instantiable (vAt e.2.2.1).1 (vAt e.2.2.1).2.2, .initialized (vAt e.2.2.1).1]
  | .anewarray i => [.classLink (mOwn y) i (aKind e.2.2.1), .arrayOver (.object (aKind e.2.2.1))]
  | .newarray _ => [.arrayClass .int]
  | _ => []
/-- what a call asks of room and names -/
def callOk (y z : Nat) : Bool := decide (z < NM) && decide (mFr z + 1 ≤ mFr y) && decide (8 + (mMaxL z + 11) + mLo z ≤ mLo y) && decide ((parseMethodDescriptor (mName z).desc).map (fun d => d.parameters.length) = some (mArgs z)) && decide ((mName z).cls ≠ "java/lang/invoke/MethodHandle") && decide ((mName z).cls ≠ "java/lang/invoke/VarHandle") && decide (mArgs z + (if mStat z then 0 else 1) ≤ mMaxL z) && plainName (mName z).cls
def tgtOk (e : Ent) (off : Int) : Bool := decide (0 ≤ (e.1 : Int) + off)
def eok (y : Nat) (e : Ent) : Bool := decide (decode (mCode y) e.1 = .ok (e.2.1, ilen e)) && (match e.2.1 with
  | .goto o | .ifCond _ o | .if_icmp _ o | .ifnull o | .ifnonnull o => tgtOk e o
  | .tableswitch d _ _ os => tgtOk e d && os.toList.all (tgtOk e)
  | .lookupswitch d ps => tgtOk e d && ps.toList.all (fun q => tgtOk e q.2) && (ps.toList.zip (ps.toList.drop 1)).all (fun q => q.1.1 < q.2.1)
  | .getfield _ => decide (e.2.2.1 < 6) && decide (e.2.2.2.toNat < (vAt e.2.2.1).2.2)
  | .putfield _ => decide (e.2.2.1 < 6) && decide (e.2.2.2.toNat < (vAt e.2.2.1).2.2) && (!((vAt e.2.2.1).2.1 e.2.2.2.toNat).2.2.2 || (mIni y && decide (((vAt e.2.2.1).2.1 e.2.2.2.toNat).1 = mOwn y)))
  | .new _ => decide (e.2.2.1 < 6)
  | .newarray t => decide (t = .int)
  | .anewarray _ => decide (e.2.2.1 = 1) || decide (e.2.2.1 = 2) || decide (e.2.2.1 = 3)
  | .invokevirtual _ => callOk y e.2.2.1 && decide (mCi e.2.2.1 < 6) && decide ((vAt (mCi e.2.2.1)).1 = (mName e.2.2.1).cls) && !mStat e.2.2.1
  | .invokestatic _ => if e.2.2.1 = ACP then decide (1 ≤ mFr y) && decide (26 ≤ mLo y) else callOk y e.2.2.1 && mStat e.2.2.1
  | .invokespecial _ => if e.2.2.1 = OBJ then decide (1 ≤ mFr y) && decide (20 ≤ mLo y) else callOk y e.2.2.1 && decide ((mName e.2.2.1).name = "<init>") && decide (mRet e.2.2.1 = none) && !mStat e.2.2.1
  | _ => true)
/-- the words of the tables that stay over a call -/
def GW : List Cond := lw_tbl.filter goodWord
/-- a word that stays over a call, or one of the two kinds that are carried by hand -/
def carW : Cond → Bool
  | .methodLinkNest _ _ _ _ => true
  | .arrayOver (.object _) => true
  | _ => false
def NW : List Cond := lw_tbl.filter carW
def okW (w : Cond) : Bool := goodWord w || carW w
def pl (ps : List (List Nat)) : List (List Cond) := ps.map (fun l => l.filterMap (fun p => lw_tbl[p]?))
theorem pl_in {y : Nat} {es : List Ent} {ps : List (List Nat)} (h : es.map (needs y) = pl ps) (hg : es.all (fun e => (needs y e).all okW) = true) : ∀ e ∈ es, ∀ w ∈ needs y e, w ∈ lw_tbl ∧ okW w = true := by
  intro e he w hw
  refine ⟨?_, List.all_eq_true.mp (List.all_eq_true.mp hg e he) w hw⟩
  have h1 : needs y e ∈ pl ps := h ▸ List.mem_map.mpr ⟨e, he, rfl⟩
  obtain ⟨l, -, hl⟩ := List.mem_map.mp h1
  rw [← hl] at hw
  obtain ⟨p, -, hp⟩ := List.mem_filterMap.mp hw
  exact List.mem_of_getElem? hp
end
section
/-! A machine of our own over the program as data: one step, a run with fuel, and (next part) that W follows it. -/
abbrev AE : Type := (Nat × Nat × ((Nat → Int32) ⊕ (Nat → Option Nat))) ⊕ (Nat × List Value)
abbrev AHp : Type := List AE
abbrev Scr : Type := Option (Nat × (Nat → Int32))
def tv (B b : Nat) : Value → Value
  | .ref a => .ref (B + a)
  | .retAddr _ => .ref b
  | v => v
def tE (B b : Nat) (dA : Nat → ClassId) : AE → va_E
  | .inl (k, n, .inl f) => .inl (dA k, n, .inl f)
  | .inl (k, n, .inr f) => .inl (dA k, n, .inr (.inr (.inr (.inr (fun j => (f j).map (B + ·))))))
  | .inr (c, fs) => .inr (c, fs.map (tv B b))
def szE : AE → Nat
  | .inl (_, n, _) => n
  | .inr (_, fs) => fs.length
def szH (h : AHp) : Nat := (h.map szE).sum
def arf : Option Nat → Value
  | none => .null
  | some a => .ref a
def dflt (c : Nat) : List Value := match c with
  | 0 => [.null, .null, .null, .int 0]
  | 1 => [.int 0, .int 0, .int 0, .int 0, .null]
  | 2 => [.null, .int 0, .int 0, .int 0, .int 0, .int 0, .int 0, .null, .int 0]
  | 3 => [.null, .int 0, .null, .null, .int 0, .null, .int 0, .int 0, .int 0, .int 0, .int 0]
  | 4 => [.null, .null, .null, .int 0, .null, .null]
  | _ => [.null, .null, .null, .null, .int 0, .int 0, .null, .int 0, .int 0, .int 0, .int 0, .int 0, .int 0, .int 0, .null]
def tyAt (c : Nat) : Nat → FieldType := match c with
  | 0 => tyX0
  | 1 => tyX1
  | 2 => tyX2
  | 3 => tyX3
  | 4 => tyX4
  | _ => tyX5
def vOk (ty : FieldType) (v : Value) : Bool := match ty, v with
  | .int, .int _ => true
  | .boolean, .int x => x == 0 || x == 1
  | .object _, .ref _ => true
  | .object _, .null => true
  | .array _, .ref _ => true
  | .array _, .null => true
  | _, _ => false
/-- which class an array of references holds -/
def kindC (k : Nat) : Nat := if k = 1 then 0 else if k = 2 then 1 else 3
def pcT (pc : Nat) (o : Int) : Nat := ((pc : Int) + o).toNat
def cB : ClassFile.Cond → Int32 → Int32 → Bool
  | .eq, x, y => decide (x = y)
  | .ne, x, y => decide (¬ x = y)
  | .lt, x, y => decide (x < y)
  | .ge, x, y => decide (y ≤ x)
  | .gt, x, y => decide (y < x)
  | .le, x, y => decide (x ≤ y)
def swT (pc : Nat) (d lo hi : Int) (os : Array Int) (x : Int32) : Nat := if x.toInt < lo ∨ hi < x.toInt then pcT pc d else match os[(x.toInt - lo).toNat]? with
  | some o => pcT pc o
  | none => 0
def swOk (lo hi : Int) (os : Array Int) (x : Int32) : Bool := decide (x.toInt < lo ∨ hi < x.toInt) || (os[(x.toInt - lo).toNat]?).isSome
abbrev Cfg : Type := Nat × List Value × List Value × AHp
/-- one instruction that neither calls nor returns -/
def ex1 (sc : Scr) (e : Ent) (ls stk : List Value) (h : AHp) : Option Cfg := match e.2.1 with
  | .iconst n => some (e.1 + 1, ls, .int (Int32.ofInt n) :: stk, h)
  | .bipush n => some (e.1 + 2, ls, .int (Int8.ofInt n).toInt32 :: stk, h)
  | .sipush n => some (e.1 + 3, ls, .int (Int16.ofInt n).toInt32 :: stk, h)
  | .ldc _ => some (e.1 + 2, ls, .int (Int32.ofInt e.2.2.2) :: stk, h)
  | .ldc_w _ => some (e.1 + 3, ls, .int (Int32.ofInt e.2.2.2) :: stk, h)
  | .aconst_null => some (e.1 + 1, ls, .null :: stk, h)
  | .iload_n k => match ls[k.val]? with
    | some (.int x) => some (e.1 + 1, ls, .int x :: stk, h)
    | _ => none
  | .iload k => match ls[k]? with
    | some (.int x) => some (e.1 + 2, ls, .int x :: stk, h)
    | _ => none
  | .aload_n k => match ls[k.val]? with
    | some (.ref a) => some (e.1 + 1, ls, .ref a :: stk, h)
    | some (.retAddr a) => some (e.1 + 1, ls, .retAddr a :: stk, h)
    | some .null => some (e.1 + 1, ls, .null :: stk, h)
    | _ => none
  | .aload k => match ls[k]? with
    | some (.ref a) => some (e.1 + 2, ls, .ref a :: stk, h)
    | _ => none
  | .istore_n k => match stk with
    | .int x :: r => if k.val < ls.length then some (e.1 + 1, ls.set k.val (.int x), r, h) else none
    | _ => none
  | .istore k => match stk with
    | .int x :: r => if k < ls.length then some (e.1 + 2, ls.set k (.int x), r, h) else none
    | _ => none
  | .astore_n k => match stk with
    | .ref a :: r => if k.val < ls.length then some (e.1 + 1, ls.set k.val (.ref a), r, h) else none
    | .null :: r => if k.val < ls.length then some (e.1 + 1, ls.set k.val .null, r, h) else none
    | _ => none
  | .astore k => match stk with
    | .ref a :: r => if k < ls.length then some (e.1 + 2, ls.set k (.ref a), r, h) else none
    | _ => none
  | .iinc k n => match ls[k]? with
    | some (.int x) => some (e.1 + 3, ls.set k (.int (x + Int32.ofInt n)), stk, h)
    | _ => none
  | .iadd => match stk with
    | .int y :: .int x :: r => some (e.1 + 1, ls, .int (x + y) :: r, h)
    | _ => none
  | .isub => match stk with
    | .int y :: .int x :: r => some (e.1 + 1, ls, .int (x - y) :: r, h)
    | _ => none
  | .imul => match stk with
    | .int y :: .int x :: r => some (e.1 + 1, ls, .int (x * y) :: r, h)
    | _ => none
  | .iand => match stk with
    | .int y :: .int x :: r => some (e.1 + 1, ls, .int (x &&& y) :: r, h)
    | _ => none
  | .ior => match stk with
    | .int y :: .int x :: r => some (e.1 + 1, ls, .int (x ||| y) :: r, h)
    | _ => none
  | .ixor => match stk with
    | .int y :: .int x :: r => some (e.1 + 1, ls, .int (x ^^^ y) :: r, h)
    | _ => none
  | .ishl => match stk with
    | .int y :: .int x :: r => some (e.1 + 1, ls, .int (x <<< (y &&& 31)) :: r, h)
    | _ => none
  | .ishr => match stk with
    | .int y :: .int x :: r => some (e.1 + 1, ls, .int (x >>> (y &&& 31)) :: r, h)
    | _ => none
  | .iushr => match stk with
    | .int y :: .int x :: r => some (e.1 + 1, ls, .int (x.toUInt32 >>> (y.toUInt32 &&& Int32.toUInt32 31)).toInt32 :: r, h)
    | _ => none
  | .irem => match stk with
    | .int y :: .int x :: r => if y = 0 then none else some (e.1 + 1, ls, .int (x - x / y * y) :: r, h)
    | _ => none
  | .dup => match stk with
    | v :: r => if v.category = 1 then some (e.1 + 1, ls, v :: v :: r, h) else none
    | _ => none
  | .dup2 => match stk with
    | v :: w :: r => if v.category = 1 ∧ w.category = 1 then some (e.1 + 1, ls, v :: w :: v :: w :: r, h) else none
    | _ => none
  | .pop => match stk with
    | v :: r => if v.category = 1 then some (e.1 + 1, ls, r, h) else none
    | _ => none
  | .goto o => some (pcT e.1 o, ls, stk, h)
  | .ifCond c o => match stk with
    | .int x :: r => some (if cB c x 0 then pcT e.1 o else e.1 + 3, ls, r, h)
    | _ => none
  | .if_icmp c o => match stk with
    | .int y :: .int x :: r => some (if cB c x y then pcT e.1 o else e.1 + 3, ls, r, h)
    | _ => none
  | .ifnull o => match stk with
    | .ref _ :: r => some (e.1 + 3, ls, r, h)
    | .null :: r => some (pcT e.1 o, ls, r, h)
    | _ => none
  | .ifnonnull o => match stk with
    | .ref _ :: r => some (pcT e.1 o, ls, r, h)
    | .null :: r => some (e.1 + 3, ls, r, h)
    | _ => none
  | .tableswitch d lo hi os => match stk with
    | .int x :: r => if swOk lo hi os x then some (swT e.1 d lo hi os x, ls, r, h) else none
    | _ => none
  | .lookupswitch d ps => match stk with
    | .int x :: r => some (pcT e.1 (Op.lookupswitch.offset ps.toList d x.toInt), ls, r, h)
    | _ => none
  | .arraylength => match stk, sc with
    | .retAddr _ :: r, some (L, _) => some (e.1 + 1, ls, .int (Int32.ofNat L) :: r, h)
    | _, _ => none
  | .iaload => match stk with
    | .int j :: .ref a :: r => match h[a]? with
      | some (.inl (0, n, .inl f)) => if j < 0 ∨ n ≤ j.toNatClampNeg then none else some (e.1 + 1, ls, .int (f j.toNatClampNeg) :: r, h)
      | _ => none
    | .int j :: .retAddr _ :: r => match sc with
      | some (L, xs) => if j < 0 ∨ L ≤ j.toNatClampNeg then none else some (e.1 + 1, ls, .int (xs j.toNatClampNeg) :: r, h)
      | _ => none
    | _ => none
  | .iastore => match stk with
    | .int x :: .int j :: .ref a :: r => match h[a]? with
      | some (.inl (0, n, .inl f)) => if j < 0 ∨ n ≤ j.toNatClampNeg then none else some (e.1 + 1, ls, r, h.set a (.inl (0, n, .inl (upd f j.toNatClampNeg x))))
      | _ => none
    | _ => none
  | .aaload => match stk with
    | .int j :: .ref a :: r => match h[a]? with
      | some (.inl (k, n, .inr f)) => if k = 0 ∨ 4 ≤ k ∨ j < 0 ∨ n ≤ j.toNatClampNeg then none else some (e.1 + 1, ls, arf (f j.toNatClampNeg) :: r, h)
      | _ => none
    | _ => none
  | .aastore => match stk with
    | .ref v :: .int j :: .ref a :: r => match h[a]?, h[v]? with
      | some (.inl (k, n, .inr f)), some (.inr (c, _)) => if k = 0 ∨ 4 ≤ k ∨ ¬ c = kindC k ∨ j < 0 ∨ n ≤ j.toNatClampNeg then none else some (e.1 + 1, ls, r, h.set a (.inl (k, n, .inr (va_up f j.toNatClampNeg (some v)))))
      | _, _ => none
    | _ => none
  | .newarray _ => match stk with
    | .int n :: r => if n < 0 ∨ 100000 < n.toNatClampNeg then none else some (e.1 + 2, ls, .ref h.length :: r, h ++ [.inl (0, n.toNatClampNeg, .inl (fun _ => 0))])
    | _ => none
  | .anewarray _ => match stk with
    | .int n :: r => if n < 0 ∨ 100000 < n.toNatClampNeg then none else some (e.1 + 3, ls, .ref h.length :: r, h ++ [.inl (e.2.2.1, n.toNatClampNeg, .inr (fun _ => none))])
    | _ => none
  | .new _ => some (e.1 + 3, ls, .ref h.length :: stk, h ++ [.inr (e.2.2.1, dflt e.2.2.1)])
  | .getfield _ => match stk with
    | .ref a :: r => match h[a]? with
      | some (.inr (c, fs)) => if c = e.2.2.1 then match fs[e.2.2.2.toNat]? with
        | some v => some (e.1 + 3, ls, v :: r, h)
        | none => none
        else none
      | _ => none
    | _ => none
  | .putfield _ => match stk with
    | v :: .ref a :: r => match h[a]? with
      | some (.inr (c, fs)) => if c = e.2.2.1 ∧ e.2.2.2.toNat < fs.length ∧ vOk (tyAt c e.2.2.2.toNat) v = true then some (e.1 + 3, ls, r, h.set a (.inr (c, fs.set e.2.2.2.toNat v))) else none
      | _ => none
    | _ => none
  | .invokespecial _ => if e.2.2.1 = OBJ then match stk with
    | .ref _ :: r => if r.length ≤ 8 ∧ r.all (fun v => v.category == 1) = true then some (e.1 + 3, ls, r, h) else none
    | _ => none
    else none
  | .invokestatic _ => if e.2.2.1 = ACP then match stk with
    | .int n :: .int dp :: .ref a :: .int sp :: .ref a0 :: r => match h[a0]?, h[a]? with
      | some (.inl (0, n0, .inl f)), some (.inl (0, n1, .inl g)) => if sp < 0 ∨ dp < 0 ∨ n < 0 ∨ n0 < sp.toNatClampNeg + n.toNatClampNeg ∨ n1 < dp.toNatClampNeg + n.toNatClampNeg ∨ ¬ (r.length ≤ 8 ∧ r.all (fun v => v.category == 1) = true) then none
        else some (e.1 + 3, ls, r, h.set a (.inl (0, n1, .inl (va_cpy f g sp.toNatClampNeg dp.toNatClampNeg n.toNatClampNeg))))
      | _, _ => none
    | _ => none
    else none
  | _ => none
def kindI (i : Instr) (r1 : Nat) : Nat := match i with
  | .ireturn | .areturn | .return_ => 1
  | .invokevirtual _ => 2
  | .invokestatic _ => if r1 = ACP then 0 else 2
  | .invokespecial _ => if r1 = OBJ then 0 else 2
  | _ => 0
def isObj : Option FieldType → Bool
  | some (.object _) => true
  | _ => false
def zRet (y : Nat) (i : Instr) (stk : List Value) : Option (Option Value) := match i, stk with
  | .ireturn, [.int v] => if mRet y = some .int ∨ (mRet y = some .boolean ∧ (v = 0 ∨ v = 1)) then some (some (.int v)) else none
  | .areturn, [.ref a] => if isObj (mRet y) = true then some (some (.ref a)) else none
  | .return_, [] => if mRet y = none then some none else none
  | _, _ => none
def zCall (i : Instr) (z : Nat) (stk : List Value) (h : AHp) : Option (List Value × List Value) :=
  if ¬ (mArgs z ≤ stk.length ∧ stk.length ≤ 8 ∧ stk.all (fun v => v.category == 1) = true) then none else match i with
  | .invokestatic _ => some ((stk.take (mArgs z)).reverse, stk.drop (mArgs z))
  | .invokevirtual _ => match stk.drop (mArgs z) with
    | .ref b :: r => match h[b]? with
      | some (.inr (c, _)) => if c = mCi z then some (.ref b :: (stk.take (mArgs z)).reverse, r) else none
      | _ => none
    | _ => none
  | .invokespecial _ => match stk.drop (mArgs z) with
    | .ref b :: r => some (.ref b :: (stk.take (mArgs z)).reverse, r)
    | _ => none
  | _ => none
def ent0 (z : Nat) (as : List Value) : List Value := as ++ List.replicate (mMaxL z - as.length) (.long 0)
def fet (y pc : Nat) : Option Ent := (kOf y).find? (fun e => e.1 == pc)
def run : Nat → Scr → Nat → Nat → List Value → List Value → AHp → Option (Option Value × AHp)
  | 0, _, _, _, _, _, _ => none
  | n + 1, sc, y, pc, ls, stk, h =>
    match fet y pc with
    | none => none
    | some e =>
      match kindI e.2.1 e.2.2.1 with
      | 0 => (ex1 sc e ls stk h).bind (fun q => run n sc y q.1 q.2.1 q.2.2.1 q.2.2.2)
      | 1 => (zRet y e.2.1 stk).map (fun v => (v, h))
      | _ => (zCall e.2.1 e.2.2.1 stk h).bind (fun q => (run n none e.2.2.1 0 (ent0 e.2.2.1 q.1) [] h).bind (fun r => run n sc y (e.1 + 3) ls (r.1.toList ++ q.2) r.2))
theorem fet_spec {y pc : Nat} {e : Ent} (h : fet y pc = some e) : e ∈ kOf y ∧ e.1 = pc := by
  unfold fet at h
  exact ⟨List.mem_of_find?_eq_some h, by simpa using List.find?_some h⟩
theorem szH_set {h : AHp} {i : Nat} {e0 e : AE} (hi : h[i]? = some e0) (hs : szE e = szE e0) : szH (h.set i e) = szH h := by
  unfold szH
  rw [List.map_set]
  congr 1
  apply List.ext_getElem?
  intro k
  rw [List.getElem?_set]
  by_cases hk : i = k
  · subst hk
    rw [if_pos rfl, List.length_map, if_pos (List.getElem?_eq_some_iff.mp hi).1, List.getElem?_map, hi, hs]; rfl
  · rw [if_neg hk]
theorem szH_push (h : AHp) (e : AE) : szH (h ++ [e]) = szH h + szE e := by
  simp [szH, List.sum_append]
end
section
/-! W follows the machine of part 08: one step. -/
def tysL (dA : Nat → ClassId) : List (ClassId × FieldType) := [(dA 0, .int), (dA 1, .object RX0), (dA 2, .object RX1), (dA 3, .object RX3)]
def Rp (B b : Nat) (D : va_G) (dA : Nat → ClassId) (h : AHp) (H : Heap) : Prop := H.size = B + h.length ∧ ∀ (k : Nat) (e : AE), h[k]? = some e → va_at D vwCl (B + k, tE B b dA e) H
def LV (B b n : Nat) (ls : List Value) (lsR : Array Slot) : Prop := lsR.size = n ∧ ls.length = n ∧ lv_wf lsR ∧ ∀ (k : Nat) (v : Value), ls[k]? = some v → v.category = 1 → lsR[k]? = some (.val (tv B b v))
/-- what part 80 on decides of the program as data -/
def KOK : Prop := (∀ y, y < NM → (kOf y).all (eok y) = true) ∧ (∀ y, y < NM → ∀ e ∈ kOf y, ∀ w ∈ needs y e, w ∈ lw_tbl ∧ okW w = true) ∧ (∀ c, c < 6 → ∀ w ∈ u_ws (vAt c).1 (vAt c).2.1 (vAt c).2.2, w ∈ GW) ∧ (∀ y, y < NM → mOwn y = (mName y).cls ∧ (mIni y = true → (mName y).name = "<init>"))
def Cx (B b : Nat) (D : va_G) (dA : Nat → ClassId) (p : Program) (R : Room) (s : State) (m : MethodId) (args : Array Value) (meth : Method) (c : Code) (y : Nat) (sc : Scr) : Prop :=
  p.tables.exec = Jvm.exec ∧ c.code = mCode y ∧ c.maxLocals = mMaxL y ∧ s.vm.findClass (mOwn y) = some m.cls ∧ (∀ w ∈ lw_tbl, okW w = true → w.before args s = true) ∧ va_K D vwCl (tysL dA) s ∧ (mIni y = true → meth.name = "<init>") ∧ mFr y ≤ R.frames ∧ mLo y ≤ R.locals ∧ (y < NM ∧ KOK) ∧ B ≤ s.heap.size ∧ (∀ L xs, sc = some (L, xs) → va_X b L xs s s.heap ∧ b < B)
theorem tv_cat (B b : Nat) (v : Value) : (tv B b v).category = v.category := by cases v <;> rfl
theorem tyAt_ok {c : Nat} (h : c < 6) : ∀ k, k < (vAt c).2.2 → parseFieldDescriptor ((vAt c).2.1 k).2.2.1 = some (tyAt c k) := by
  rcases (show c = 0 ∨ c = 1 ∨ c = 2 ∨ c = 3 ∨ c = 4 ∨ c = 5 by omega) with rfl | rfl | rfl | rfl | rfl | rfl
  · exact tyX0_ok
  · exact tyX1_ok
  · exact tyX2_ok
  · exact tyX3_ok
  · exact tyX4_ok
  · exact tyX5_ok
theorem nmAt {c : Nat} (h : c < 6) : ∀ a, a < (vAt c).2.2 → ∀ b, b < (vAt c).2.2 → a ≠ b → ((vAt c).2.1 a).2.1 ≠ ((vAt c).2.1 b).2.1 := by
  rcases (show c = 0 ∨ c = 1 ∨ c = 2 ∨ c = 3 ∨ c = 4 ∨ c = 5 by omega) with rfl | rfl | rfl | rfl | rfl | rfl
  · exact nmX0
  · exact nmX1
  · exact nmX2
  · exact nmX3
  · exact nmX4
  · exact nmX5
theorem vw_at {c : Nat} (h : c < 6) : vwCl[c]? = some ((vAt c).1, (vAt c).2.1, (vAt c).2.2) := by
  rcases (show c = 0 ∨ c = 1 ∨ c = 2 ∨ c = 3 ∨ c = 4 ∨ c = 5 by omega) with rfl | rfl | rfl | rfl | rfl | rfl <;> rfl
theorem vw_lt {c : Nat} {r : vw_C} (h : vwCl[c]? = some r) : c < 6 := (List.getElem?_eq_some_iff.mp h).1
theorem dflt_ok {c : Nat} (h : c < 6) : (dflt c).length = (vAt c).2.2 ∧ ∀ B b j, j < (vAt c).2.2 → defaultValue (tyAt c j) = vp_V ((dflt c).map (tv B b)) j := by
  have key : ∀ B b, (dflt c).map (tv B b) = dflt c := by
    intro B b
    rcases (show c = 0 ∨ c = 1 ∨ c = 2 ∨ c = 3 ∨ c = 4 ∨ c = 5 by omega) with rfl | rfl | rfl | rfl | rfl | rfl <;> rfl
  have k2 : (dflt c).length = (vAt c).2.2 ∧ ∀ j, j < (vAt c).2.2 → defaultValue (tyAt c j) = vp_V (dflt c) j := by
    rcases (show c = 0 ∨ c = 1 ∨ c = 2 ∨ c = 3 ∨ c = 4 ∨ c = 5 by omega) with rfl | rfl | rfl | rfl | rfl | rfl <;> exact ⟨rfl, by decide +kernel⟩
  exact ⟨k2.1, fun B b j hj => by rw [key]; exact k2.2 j hj⟩
theorem vOk_spec {ty : FieldType} {v : Value} (B b : Nat) (h : vOk ty v = true) : narrow ty (tv B b v) = tv B b v ∧ fits ty (tv B b v) = true := by
  unfold vOk at h
  split at h
  · exact ⟨rfl, rfl⟩
  · rename_i x
    rcases (show x = 0 ∨ x = 1 by simpa using h) with rfl | rfl <;> exact ⟨rfl, rfl⟩
  · exact ⟨rfl, rfl⟩
  · exact ⟨rfl, rfl⟩
  · exact ⟨rfl, rfl⟩
  · exact ⟨rfl, rfl⟩
  · cases h
section RPL
variable {B b : Nat} {D : va_G} {dA : Nat → ClassId} {h : AHp} {H H1 : Heap}
theorem rp_set {k : Nat} {e0 e : AE} (hR : Rp B b D dA h H) (hk : h[k]? = some e0) (he : va_at D vwCl (B + k, tE B b dA e) H1) (hz : H1.size = H.size) (oq : ∀ q : Nat, q ≠ B + k → H1[q]? = H[q]?) : Rp B b D dA (h.set k e) H1 := by
  have hl := (List.getElem?_eq_some_iff.mp hk).1
  refine ⟨by rw [hz, hR.1, List.length_set], fun j e1 hj => ?_⟩
  by_cases hjk : j = k
  · subst hjk
    rw [List.getElem?_set_self hl] at hj
    cases hj
    exact he
  · rw [List.getElem?_set_ne (Ne.symm hjk)] at hj
    exact (hR.2 j e1 hj).kept (oq _ (by show B + j ≠ B + k; omega))
theorem rp_push {e : AE} (hR : Rp B b D dA h H) (he : va_at D vwCl (B + h.length, tE B b dA e) H1) (hz : H1.size = H.size + 1) (oq : ∀ q : Nat, q < H.size → H1[q]? = H[q]?) : Rp B b D dA (h ++ [e]) H1 := by
  refine ⟨by rw [hz, hR.1, List.length_append]; rfl, fun j e1 hj => ?_⟩
  by_cases hjk : j < h.length
  · rw [List.getElem?_append_left hjk] at hj
    exact (hR.2 j e1 hj).kept (oq _ (by show B + j < H.size; rw [hR.1]; omega))
  · rw [List.getElem?_append_right (by omega)] at hj
    have hz := (List.getElem?_eq_some_iff.mp hj).1
    have e2 : j = h.length := by simp at hz; omega
    subst e2
    rw [Nat.sub_self] at hj
    cases hj
    exact he
theorem rp_lt {k : Nat} {e : AE} (hR : Rp B b D dA h H) (hk : h[k]? = some e) : B + k < H.size := by
  have hl := (List.getElem?_eq_some_iff.mp hk).1
  rw [hR.1]; omega
theorem s_grow {s : State} {locs : List Loc} (hS : va_S (fun q : Nat => B ≤ q) s.heap H locs) (hz : H1.size = H.size + 1) (oq : ∀ q : Nat, q < H.size → H1[q]? = H[q]?) : va_S (fun q : Nat => B ≤ q) s.heap H1 locs :=
  ⟨Nat.le_trans hS.1 (by omega), fun x h1 h2 => (oq x (Nat.lt_of_lt_of_le h1 hS.1)).trans (hS.2.1 x h1 h2), hS.2.2⟩
end RPL
section LVL
variable {B b n : Nat} {ls : List Value} {lsR : Array Slot}
def lvP (B b : Nat) (ls : List Value) : List (Nat × Value) := (ls.mapIdx (fun k v => (k, v))).filterMap (fun q => if q.2.category = 1 then some (q.1, tv B b q.2) else none)
theorem lvP_mem {k : Nat} {v : Value} (h : ls[k]? = some v) (hc : v.category = 1) : (k, tv B b v) ∈ lvP B b ls := by
  refine List.mem_filterMap.mpr ⟨(k, v), ?_, by simp [hc]⟩
  exact List.mem_of_getElem? (i := k) (by rw [List.getElem?_mapIdx, h]; rfl)
theorem LV.has (hl : LV B b n ls lsR) : lv_has lsR n (lvP B b ls) := by
  obtain ⟨h1, h2, h3, h4⟩ := hl
  refine ⟨h1, h3, fun q hq => ?_⟩
  obtain ⟨⟨k, v⟩, ha, hb⟩ := List.mem_filterMap.mp hq
  obtain ⟨i, hi⟩ := List.getElem?_of_mem ha
  rw [List.getElem?_mapIdx] at hi
  cases hv : ls[i]? with
  | none => rw [hv] at hi; cases hi
  | some w =>
    rw [hv] at hi
    obtain ⟨rfl, rfl⟩ : i = k ∧ w = v := by simpa using hi
    by_cases hc : w.category = 1
    · rw [if_pos hc] at hb
      cases hb
      exact h4 i w hv hc
    · rw [if_neg hc] at hb; cases hb
theorem LV.put {i : Nat} {v : Value} {ls' : Array Slot} (hl : LV B b n ls lsR) (hv : v.category = 1) (hi : i < n) (h : lv_has ls' n ((i, tv B b v) :: (lvP B b ls).filter (fun q => !(q.1 == i) && !(q.1 + 1 == i && q.2.category == 2)))) : LV B b n (ls.set i v) ls' := by
  obtain ⟨g1, g2, g3⟩ := h
  refine ⟨g1, by rw [List.length_set]; exact hl.2.1, g2, fun k w hk hw => ?_⟩
  rw [List.getElem?_set] at hk
  by_cases hik : i = k
  · subst hik
    rw [if_pos rfl, if_pos (by rw [hl.2.1]; exact hi)] at hk
    cases hk
    exact g3 _ List.mem_cons_self
  · rw [if_neg hik] at hk
    refine g3 (k, tv B b w) (List.mem_cons_of_mem _ (List.mem_filter.mpr ⟨lvP_mem hk hw, ?_⟩))
    have a1 : (k == i) = false := by simpa using fun q => hik q.symm
    have a2 : ((tv B b w).category == 2) = false := by rw [tv_cat, hw]; rfl
    simp [a1, a2]
theorem LV.get {i : Nat} {v : Value} (hl : LV B b n ls lsR) (h : ls[i]? = some v) (hv : v.category = 1) : lsR[i]? = some (.val (tv B b v)) := hl.2.2.2 i v h hv
theorem LV.at {i : Nat} {v : Value} (h : ls[i]? = some v) (hv : v.category = 1) : ∃ k : Nat, (lvP B b ls)[k]? = some (i, tv B b v) := List.getElem?_of_mem (lvP_mem h hv)
end LVL
theorem pcT_ok {e : Ent} {o : Int} (h : tgtOk e o = true) : (e.1 : Int) + o = (pcT e.1 o : Int) := by
  have h1 : 0 ≤ (e.1 : Int) + o := by simpa [tgtOk] using h
  unfold pcT
  omega
section HEAP
variable {B b : Nat} {D : va_G} {dA : Nat → ClassId} {p : Program} {l : Launch} {ev : Env} {R : Room} {s : State} {m : MethodId} {args : Array Value} {below : List Frame} {meth : Method} {c : Code} {H : Heap} {locs : List Loc} {cells slots : Nat} {Q : State → Prop} {y : Nat} {sc : Scr} {h : AHp} {pc : Nat} {lsR : Array Slot} {rest : List Value}
theorem Cx.gw (C : Cx B b D dA p R s m args meth c y sc) : ∀ w ∈ GW, w.before args s = true := by
  obtain ⟨-, -, -, -, h, -⟩ := C
  intro w hw
  obtain ⟨h1, h2⟩ := List.mem_filter.mp hw
  exact h w h1 (by simp [okW, h2])
theorem Cx.lay (C : Cx B b D dA p R s m args meth c y sc) {ci : Nat} (h : ci < 6) : ∀ w ∈ u_ws (vAt ci).1 (vAt ci).2.1 (vAt ci).2.2, w ∈ GW := by
  obtain ⟨-, -, -, -, -, -, -, -, -, ⟨-, -, -, k, -⟩, -⟩ := C
  exact k ci h
theorem rp_get (C : Cx B b D dA p R s m args meth c y sc) (hR : Rp B b D dA h H) {i ci k idx : Nat} {fs : List Value} {v : Value} (hi : h[i]? = some (.inr (ci, fs))) (hc : ci < 6) (hk : k < (vAt ci).2.2) (hlink : (Cond.fieldLink (mOwn y) idx ((vAt ci).2.1 k).1 ((vAt ci).2.1 k).2.1 ((vAt ci).2.1 k).2.2.1).before args s = true) (hv : fs[k]? = some v) (hdg : decode (mCode y) pc = .ok (.getfield idx, 3))
    (kk : W p l ev R s m args below meth c H locs cells slots Q (F0 m (pc + 3) lsR (tv B b v :: rest))) : W p l ev R s m args below meth c H locs cells slots Q (F0 m pc lsR (.ref (B + i) :: rest)) := by
  have hP : va_P D vwCl [(B + i, tE B b dA (.inr (ci, fs)))] H := by
    intro z q hz
    have hl := (List.getElem?_eq_some_iff.mp hz).1
    have : z = 0 := by simp at hl; omega
    subst this
    cases hz
    exact hR.2 i _ hi
  obtain ⟨hx, hb, -, hown, -, hK, -⟩ := id C
  exact va_get (C := (vAt ci).1) (T := (vAt ci).2.1) (N := (vAt ci).2.2) hx hb C.gw (C.lay hc) hown hK hP 0 (fs := fs.map (tv B b)) rfl (vw_at hc) k hk hlink (fun _ q => q) (by rw [List.getElem?_map, hv]; rfl) hdg kk
theorem rp_put (C : Cx B b D dA p R s m args meth c y sc) (hS0 : va_S (fun q : Nat => B ≤ q) s.heap H locs) (hR : Rp B b D dA h H) {i ci k idx : Nat} {fs : List Value} {v : Value} (hi : h[i]? = some (.inr (ci, fs))) (hc : ci < 6) (hk : k < (vAt ci).2.2) (hlen : k < fs.length) (hlink : (Cond.fieldLink (mOwn y) idx ((vAt ci).2.1 k).1 ((vAt ci).2.1 k).2.1 ((vAt ci).2.1 k).2.2.1).before args s = true)
    (hfin : ((vAt ci).2.1 k).2.2.2 = true → mIni y = true ∧ ((vAt ci).2.1 k).1 = mOwn y) (hok : vOk (tyAt ci k) v = true) (hdg : decode (mCode y) pc = .ok (.putfield idx, 3))
    (kk : ∀ (H1 : Heap) (locs1 : List Loc), va_S (fun q : Nat => B ≤ q) s.heap H1 locs1 → Rp B b D dA (h.set i (.inr (ci, fs.set k v))) H1 → W p l ev R s m args below meth c H1 locs1 cells slots Q (F0 m (pc + 3) lsR rest)) : W p l ev R s m args below meth c H locs cells slots Q (F0 m pc lsR (tv B b v :: .ref (B + i) :: rest)) := by
  obtain ⟨hx, hb, -, hown, -, hK, hini, -⟩ := id C
  have hts := C.gw
  have hap := va_apart (own := mOwn y) hts (C.lay hc) (tyAt ci) (tyAt_ok hc) (nmAt hc) hK (vw_at hc)
  obtain ⟨r, h1, cell, q1, q2, q3, q4⟩ := hR.2 i _ hi
  have hr : r = ((vAt ci).1, (vAt ci).2.1, (vAt ci).2.2) := Option.some.inj (h1.symm.trans (vw_at hc))
  subst hr
  obtain ⟨hS, hfc, kC, hkC, hkind⟩ := hK.1 ci _ (vw_at hc)
  obtain ⟨cf, kf, fi, f, hif, hsl⟩ := hS k hk
  have hst := (u_facts hfc hkC (u_lays hts (C.lay hc) hk) hif).1
  obtain ⟨hn, hft⟩ := vOk_spec B b hok
  have fin : ∀ H' : Heap, H'[B + i]? = some (cell.setSlot f.slot (tv B b v)) → H'.size = H.size → (∀ q, q ≠ B + i → H'[q]? = H[q]?) → W p l ev R s m args below meth c H' (locs ++ [⟨B + i, f.slot⟩]) cells slots Q (F0 m (pc + 3) lsR rest) := by
    intro H' e1 e2 e3
    rw [hsl] at e1 ⊢
    refine kk H' _ (hS0.put e2 e3 (Nat.le_add_right B i)) (rp_set hR hi ⟨_, vw_at hc, ?_⟩ e2 e3)
    refine t_OB.to (V := updV (vp_V (fs.map (tv B b))) k (tv B b v)) ⟨_, e1, q2, q3, t_set q4 hap hk (tv B b v)⟩ (fun j _ => ?_)
    rw [vp_updV_set (by rw [List.length_map]; exact hlen), ← List.map_set]
  cases hfn : ((vAt ci).2.1 k).2.2.2 with
  | false =>
    have hlay := hts _ (C.lay hc _ (u_in_lay hk))
    unfold u_lay at hlay
    rw [if_neg (by rw [hfn]; decide)] at hlay
    have h6 := u_store hfc hkC hkind hlay hif (tyAt_ok hc k hk) hn hft
    exact W.putK hx hb (f := f) ⟨hown, hlink, ⟨_, _, _, hif⟩, hst⟩ (by rw [q2]; exact h6) q1 q3 (by rw [hsl]; exact k2_hasslot (q4 k hk)) rfl rfl hdg fin
  | true =>
    obtain ⟨hi1, hi2⟩ := hfin hfn
    have hlay := hts _ (C.lay hc _ (u_in_lay hk))
    unfold u_lay at hlay
    rw [if_pos hfn] at hlay
    have hcf : m.cls = cf := by
      obtain ⟨_, _, c', _, _, _, -, -, hf', -, -, -, hown2, -⟩ := Cond.laysFinal_spec hlay
      have e1 : c' = cf := by have := hif.symm.trans hf'; simp at this; exact this.1.symm
      rw [hi2] at hown2
      rw [← e1]; exact Option.some.inj (hown.symm.trans hown2)
    have h6 := u_fits hfc hkC hkind (Or.inr hlay) hif (tyAt_ok hc k hk) hn hft
    exact W.putFinK hx hb hown hlink hif hst hcf (hini hi1) (by rw [q2]; exact h6) q1 q3 (by rw [hsl]; exact k2_hasslot (q4 k hk)) rfl rfl hdg fin
theorem rp_iald (C : Cx B b D dA p R s m args meth c y sc) (hR : Rp B b D dA h H) {i n : Nat} {f : Nat → Int32} {j : Int32} (hi : h[i]? = some (.inl (0, n, .inl f))) (hj : ¬ (j < 0 ∨ n ≤ j.toNatClampNeg)) (hdg : decode (mCode y) pc = .ok (.iaload, 1))
    (kk : W p l ev R s m args below meth c H locs cells slots Q (F0 m (pc + 1) lsR (.int (f j.toNatClampNeg) :: rest))) : W p l ev R s m args below meth c H locs cells slots Q (F0 m pc lsR (.int j :: .ref (B + i) :: rest)) := by
  obtain ⟨hx, hb, -, hown, -, hK, -⟩ := id C
  have hlt : j.toNatClampNeg < n := Nat.not_le.mp fun q => hj (Or.inr q)
  exact W.iald (v := .int (f j.toNatClampNeg)) hx hb (hR.2 i _ hi) ((hK.2 0 _ rfl).1 n (fun j => .int (f j))) (fun q => by cases q) (by show ¬ (j < 0 ∨ (arrV _ _ _).slots.size ≤ _); rw [arrV_size]; exact hj) (by show (arrV _ _ _).slots[_]? = _; rw [arrV_read _ _ hlt]) rfl rfl hdg kk
theorem rp_iast (C : Cx B b D dA p R s m args meth c y sc) (hS : va_S (fun q : Nat => B ≤ q) s.heap H locs) (hR : Rp B b D dA h H) {i n : Nat} {f : Nat → Int32} {j x : Int32} (hi : h[i]? = some (.inl (0, n, .inl f))) (hj : ¬ (j < 0 ∨ n ≤ j.toNatClampNeg)) (hdg : decode (mCode y) pc = .ok (.iastore, 1))
    (kk : ∀ (H1 : Heap) (locs1 : List Loc), va_S (fun q : Nat => B ≤ q) s.heap H1 locs1 → Rp B b D dA (h.set i (.inl (0, n, .inl (upd f j.toNatClampNeg x)))) H1 → W p l ev R s m args below meth c H1 locs1 cells slots Q (F0 m (pc + 1) lsR rest)) : W p l ev R s m args below meth c H locs cells slots Q (F0 m pc lsR (.int x :: .int j :: .ref (B + i) :: rest)) := by
  obtain ⟨hx, hb, -, hown, -, hK, -⟩ := id C
  refine W.iast hx hb (hR.2 i _ hi) ((hK.2 0 _ rfl).1 n (fun j => .int (f j))) (fun q => by cases q) (by show ¬ (j < 0 ∨ (arrV _ _ _).slots.size ≤ _); rw [arrV_size]; exact hj) rfl rfl hdg fun H1 e z oq => ?_
  refine kk H1 _ (hS.put z oq (Nat.le_add_right B i)) (rp_set hR hi ?_ z oq)
  show H1[B + i]? = some (vp_cell _ _)
  rw [e]
  show some ((vp_cell (dA 0) (n, .inl f)).setSlot _ _) = some (vp_cell (dA 0) (n, .inl (upd f j.toNatClampNeg x)))
  rw [vp_cell_i, vp_cell_i, arrV_store]
  congr 2
  funext q
  by_cases hq : q = j.toNatClampNeg
  · subst hq
    simp [updV, upd]
  · simp [updV, upd, hq]
theorem ty_at {k : Nat} (h : ¬ (k = 0 ∨ 4 ≤ k)) : (tysL dA)[k]? = some (dA k, .object (aKind k)) := by
  rcases (show k = 1 ∨ k = 2 ∨ k = 3 by omega) with rfl | rfl | rfl <;> rfl
theorem arf_tv (r : Option Nat) : tv B b (arf r) = va_rf (r.map (B + ·)) := by cases r <;> rfl
theorem rp_aald (C : Cx B b D dA p R s m args meth c y sc) (hR : Rp B b D dA h H) {i n k : Nat} {f : Nat → Option Nat} {j : Int32} (hi : h[i]? = some (.inl (k, n, .inr f))) (hk : ¬ (k = 0 ∨ 4 ≤ k)) (hj : ¬ (j < 0 ∨ n ≤ j.toNatClampNeg)) (hdg : decode (mCode y) pc = .ok (.aaload, 1))
    (kk : W p l ev R s m args below meth c H locs cells slots Q (F0 m (pc + 1) lsR (tv B b (arf (f j.toNatClampNeg)) :: rest))) : W p l ev R s m args below meth c H locs cells slots Q (F0 m pc lsR (.int j :: .ref (B + i) :: rest)) := by
  obtain ⟨hx, hb, -, hown, -, hK, -⟩ := id C
  have hlt : j.toNatClampNeg < n := Nat.not_le.mp fun q => hj (Or.inr q)
  rw [arf_tv] at kk
  exact W.aald (v := va_rf ((f j.toNatClampNeg).map (B + ·))) (ty := .object (aKind k)) hx hb (hR.2 i _ hi) ((hK.2 k _ (ty_at hk)).1 n (fun j => va_rf ((f j).map (B + ·)))) rfl (fun q => by cases q) (by show ¬ (j < 0 ∨ (arrV _ _ _).slots.size ≤ _); rw [arrV_size]; exact hj) (by show (arrV _ _ _).slots[_]? = _; rw [arrV_read _ _ hlt]) rfl rfl hdg kk
theorem kindC_at {k : Nat} (h : ¬ (k = 0 ∨ 4 ≤ k)) : vwCl[kindC k]? = some (aKind k, (vAt (kindC k)).2.1, (vAt (kindC k)).2.2) := by
  rcases (show k = 1 ∨ k = 2 ∨ k = 3 by omega) with rfl | rfl | rfl <;> rfl
theorem rp_aast (C : Cx B b D dA p R s m args meth c y sc) (hS : va_S (fun q : Nat => B ≤ q) s.heap H locs) (hR : Rp B b D dA h H) {i n k v : Nat} {fs : List Value} {f : Nat → Option Nat} {j : Int32} (hi : h[i]? = some (.inl (k, n, .inr f))) (hv : h[v]? = some (.inr (kindC k, fs))) (hk : ¬ (k = 0 ∨ 4 ≤ k)) (hj : ¬ (j < 0 ∨ n ≤ j.toNatClampNeg)) (hdg : decode (mCode y) pc = .ok (.aastore, 1))
    (kk : ∀ (H1 : Heap) (locs1 : List Loc), va_S (fun q : Nat => B ≤ q) s.heap H1 locs1 → Rp B b D dA (h.set i (.inl (k, n, .inr (va_up f j.toNatClampNeg (some v))))) H1 → W p l ev R s m args below meth c H1 locs1 cells slots Q (F0 m (pc + 1) lsR rest)) : W p l ev R s m args below meth c H locs cells slots Q (F0 m pc lsR (.ref (B + v) :: .int j :: .ref (B + i) :: rest)) := by
  obtain ⟨hx, hb, -, hown, -, hK, -⟩ := id C
  have hlt : j.toNatClampNeg < n := Nat.not_le.mp fun q => hj (Or.inr q)
  have h0 : ¬ j < 0 := fun q => hj (Or.inl q)
  obtain ⟨r', hr', cellV, g1, g2, g3, -⟩ := hR.2 v _ hv
  have hcls := (hK.1 (kindC k) _ (kindC_at hk)).2
  obtain ⟨kA, comp, k1, k2, k3, -⟩ := (hK.2 k _ (ty_at hk)).2
  have hcomp : comp = D.1 (kindC k) := Option.some.inj (k3.symm.trans hcls.1)
  subst hcomp
  obtain ⟨kC, hkC, -⟩ := hcls.2
  refine W.aast hx hb (hR.2 i _ hi) (fun q h => by cases h) (fun h => by cases h) k1 k2 rfl hkC ⟨h0, by show _ < (arrV _ _ _).slots.size; rw [arrV_size]; exact hlt⟩ g1 (fun q h => by rw [g3] at h; cases h) (by rw [g2]; exact hkC) (by rw [g2]; exact va_assign hcls) rfl rfl hdg fun H1 e z oq => ?_
  refine kk H1 _ (hS.put z oq (Nat.le_add_right B i)) (rp_set hR hi ?_ z oq)
  show H1[B + i]? = some (vp_cell _ _)
  rw [e]
  show some ((vp_cell (dA k) (n, .inr (.inr (.inr (.inr (fun j => (f j).map (B + ·))))))).setSlot _ _) = some (vp_cell (dA k) (n, .inr (.inr (.inr (.inr (fun q => ((va_up f j.toNatClampNeg (some v)) q).map (B + ·)))))))
  rw [vp_cell_q, vp_cell_q, arrV_store]
  congr 2
  funext q
  by_cases hq : q = j.toNatClampNeg
  · subst hq
    simp [updV, va_up, va_rf]
  · simp [updV, va_up, hq]
theorem rp_new (C : Cx B b D dA p R s m args meth c y sc) (hS : va_S (fun q : Nat => B ≤ q) s.heap H locs) (hR : Rp B b D dA h H) {ci idx : Nat} (hc : ci < 6) (hcl : (Cond.classLink (mOwn y) idx (vAt ci).1).before args s = true) (hinst : (Cond.instantiable (vAt ci).1 (vAt ci).2.2).before args s = true) (hini : (Cond.initialized (vAt ci).1).before args s = true) (hcells : cells + 1 ≤ R.cells) (hslots : slots + (dflt ci).length ≤ R.slots) (hdg : decode (mCode y) pc = .ok (.new idx, 3))
    (kk : ∀ H1 : Heap, va_S (fun q : Nat => B ≤ q) s.heap H1 locs → Rp B b D dA (h ++ [.inr (ci, dflt ci)]) H1 → W p l ev R s m args below meth c H1 locs (cells + 1) (slots + (dflt ci).length) Q (F0 m (pc + 3) lsR (.ref (B + h.length) :: rest))) : W p l ev R s m args below meth c H locs cells slots Q (F0 m pc lsR rest) := by
  obtain ⟨hx, hb, -, hown, -, hK, -⟩ := id C
  have hKn := hK.1 ci _ (vw_at hc)
  obtain ⟨d1, d2⟩ := dflt_ok hc
  rw [d1] at hslots kk
  refine W.newcK hx hb hown hcl hinst hini rfl hdg hcells hslots hKn.2.1 hR.1 fun H1 kC hkC e1 z1 o1 => ?_
  rw [← hR.1] at z1 o1
  exact kk H1 (s_grow hS z1 o1) (rp_push hR ⟨_, vw_at hc, (u_born (tyAt ci) C.gw (C.lay hc) hKn hkC e1 (tyAt_ok hc)).to (fun j hj => d2 B b j hj)⟩ z1 o1)
theorem rp_newa (C : Cx B b D dA p R s m args meth c y sc) (hS : va_S (fun q : Nat => B ≤ q) s.heap H locs) (hR : Rp B b D dA h H) {n : Int32} (harr : (Cond.arrayClass .int).before args s = true) (hn : ¬ (n < 0 ∨ 100000 < n.toNatClampNeg)) (hcells : cells + 1 ≤ R.cells) (hslots : slots + n.toNatClampNeg ≤ R.slots) (hdg : decode (mCode y) pc = .ok (.newarray .int, 2))
    (kk : ∀ H1 : Heap, va_S (fun q : Nat => B ≤ q) s.heap H1 locs → Rp B b D dA (h ++ [.inl (0, n.toNatClampNeg, .inl (fun _ => 0))]) H1 → W p l ev R s m args below meth c H1 locs (cells + 1) (slots + n.toNatClampNeg) Q (F0 m (pc + 2) lsR (.ref (B + h.length) :: rest))) : W p l ev R s m args below meth c H locs cells slots Q (F0 m pc lsR (.int n :: rest)) := by
  obtain ⟨hx, hb, -, hown, -, hK, -⟩ := id C
  refine va_newaK hx hb (atype := .int) harr rfl hdg rfl (fun q => hn (Or.inl q)) rfl ?_ hcells hslots hR.1 fun H1 cA e1 z1 o1 hAr hNm => ?_
  · show n.toNatClampNeg * 4 ≤ 536870912
    have : n.toNatClampNeg ≤ 100000 := Nat.not_lt.mp fun q => hn (Or.inr q)
    omega
  · rw [← hR.1] at z1 o1
    refine kk H1 (s_grow hS z1 o1) (rp_push hR ?_ z1 o1)
    have h2 : s.vm.findClass ("[" ++ (FieldType.int).toString) = some (dA 0) := (hK.2 0 _ rfl).2
    have e0 : cA = dA 0 := Option.some.inj (hNm.symm.trans h2)
    subst e0
    exact e1
theorem rp_newq (C : Cx B b D dA p R s m args meth c y sc) (hS : va_S (fun q : Nat => B ≤ q) s.heap H locs) (hR : Rp B b D dA h H) {n : Int32} {k idx : Nat} (hk : ¬ (k = 0 ∨ 4 ≤ k)) (hcl : (Cond.classLink (mOwn y) idx (aKind k)).before args s = true) (hover : (Cond.arrayOver (.object (aKind k))).before args s = true) (hn : ¬ (n < 0 ∨ 100000 < n.toNatClampNeg)) (hcells : cells + 1 ≤ R.cells) (hslots : slots + n.toNatClampNeg ≤ R.slots) (hdg : decode (mCode y) pc = .ok (.anewarray idx, 3))
    (kk : ∀ H1 : Heap, va_S (fun q : Nat => B ≤ q) s.heap H1 locs → Rp B b D dA (h ++ [.inl (k, n.toNatClampNeg, .inr (fun _ => none))]) H1 → W p l ev R s m args below meth c H1 locs (cells + 1) (slots + n.toNatClampNeg) Q (F0 m (pc + 3) lsR (.ref (B + h.length) :: rest))) : W p l ev R s m args below meth c H locs cells slots Q (F0 m pc lsR (.int n :: rest)) := by
  obtain ⟨hx, hb, -, hown, -, hK, -⟩ := id C
  have hlen : n.toNatClampNeg * 4 ≤ 536870912 := by
    have : n.toNatClampNeg ≤ 100000 := Nat.not_lt.mp fun q => hn (Or.inr q)
    omega
  refine W.anew hx hb hown hcl hover rfl hdg rfl (fun q => hn (Or.inl q)) hlen hcells hslots fun cA kA comp f1 f2 f3 f4 => ?_
  generalize hH1 : H.push ({ cls := cA, slots := Array.replicate n.toNatClampNeg .null, vm := .none } : Cell) = H1
  have z1 : H1.size = H.size + 1 := by rw [← hH1, Array.size_push]
  have e1 : H1[H.size]? = some (arrV cA n.toNatClampNeg (fun _ => .null)) := by rw [← hH1, Array.getElem?_push_size, ← arrV_new]
  have o1 : ∀ q : Nat, q < H.size → H1[q]? = H[q]? := fun q hq => by rw [← hH1, Array.getElem?_push, if_neg (Nat.ne_of_lt hq)]
  obtain ⟨kA', comp', k1, k2, k3, k4⟩ := (hK.2 k _ (ty_at hk)).2
  have e0 : cA = dA k := Option.some.inj (f1.symm.trans k4)
  subst e0
  have hz : H.size = B + h.length := hR.1
  rw [hz] at e1
  show W _ _ _ _ _ _ _ _ _ _ _ _ _ _ _ (F0 m (pc + 3) lsR (.ref H.size :: rest))
  rw [hz]
  exact kk H1 (s_grow hS z1 o1) (rp_push hR e1 z1 o1)
theorem rp_copy (C : Cx B b D dA p R s m args meth c y sc) (hS : va_S (fun q : Nat => B ≤ q) s.heap H locs) (hR : Rp B b D dA h H) (hml : c.maxLocals = lsR.size) {idx : Nat} (hlink : (Cond.methodLink (mOwn y) idx arraycopyName).before args s = true) (hnat : (Cond.native arraycopyName).before args s = true) (hstat : (Cond.static arraycopyName).before args s = true) (hini : (Cond.initialized "java/lang/System").before args s = true)
    {i0 i1 n0 n1 : Nat} {f g : Nat → Int32} (ha0 : h[i0]? = some (.inl (0, n0, .inl f))) (ha1 : h[i1]? = some (.inl (0, n1, .inl g))) {sp dp n : Int32} (h1 : ¬ sp < 0) (h2 : ¬ dp < 0) (h3 : ¬ n < 0) (h4 : sp.toNatClampNeg + n.toNatClampNeg ≤ n0) (h5 : dp.toNatClampNeg + n.toNatClampNeg ≤ n1) (hframes : 1 ≤ R.frames) (hlocals : (rest.map fun v => v.category).sum + 18 ≤ R.locals) (hdg : decode (mCode y) pc = .ok (.invokestatic idx, 3))
    (kk : ∀ (H1 : Heap) (locs1 : List Loc), va_S (fun q : Nat => B ≤ q) s.heap H1 locs1 → Rp B b D dA (h.set i1 (.inl (0, n1, .inl (va_cpy f g sp.toNatClampNeg dp.toNatClampNeg n.toNatClampNeg)))) H1 → W p l ev R s m args below meth c H1 locs1 cells slots Q (F0 m (pc + 3) lsR rest)) : W p l ev R s m args below meth c H locs cells slots Q (F0 m pc lsR (.int n :: .int dp :: .ref (B + i1) :: .int sp :: .ref (B + i0) :: rest)) := by
  obtain ⟨hexec, hb, -, hown, -, hK, -⟩ := id C
  have nn : ∀ z : Int32, ¬ z < 0 → z.toInt = (z.toNatClampNeg : Int) := by
    intro z hz
    have hz0 : (0 : Int) ≤ z.toInt := by
      have := Int32.not_lt.mp hz
      simpa using Int32.le_iff_toInt_le.mp this
    show z.toInt = ((z.toInt.toNat : Nat) : Int)
    omega
  intro T hT X
  have hc0 : H[B + i0]? = some (vp_cell (dA 0) (n0, .inl f)) := hR.2 i0 _ ha0
  have hc1 : H[B + i1]? = some (vp_cell (dA 0) (n1, .inl g)) := hR.2 i1 _ ha1
  obtain ⟨-, k0, hk0, cm0, hkk0⟩ := (hK.2 0 _ rfl).1 n0 (fun j => .int (f j))
  obtain ⟨-, k1, hk1, cm1, hkk1⟩ := (hK.2 0 _ rfl).1 n1 (fun j => .int (g j))
  obtain ⟨vm', X', step⟩ := X.arraycopy hexec hown hlink hnat hstat hini (src := B + i0) (dst := B + i1) (cs := vp_cell (dA 0) (n0, .inl f)) (cd := vp_cell (dA 0) (n1, .inl g)) (srcPos := sp) (destPos := dp) (n := n) (by rw [hT]; exact hc0) (by rw [hT]; exact hc1)
    (fun _ h => by cases h) (fun _ h => by cases h) (fun h => by cases h) (fun h => by cases h) hk0 hk1 hkk0 hkk1 (by simp [refKind]) h1 h2 h3
    (by rw [nn sp h1, nn n h3]; show ¬ _ > ((arrV (dA 0) n0 (fun j => .int (f j))).slots.size : Int); rw [arrV_size]; omega)
    (by rw [nn dp h2, nn n h3]; show ¬ _ > ((arrV (dA 0) n1 (fun j => .int (g j))).slots.size : Int); rw [arrV_size]; omega)
    (fun vm₁ _ i hi => by
      have e : (vp_cell (dA 0) (n0, .inl f)).slots.getD (sp.toNatClampNeg + i) .null = .int (f (sp.toNatClampNeg + i)) := by
        show (arrV (dA 0) n0 (fun j => .int (f j))).slots.getD _ _ = _
        rw [Array.getD_eq_getD_getElem?, arrV_read _ _ (by omega)]
        rfl
      refine ⟨?_, ?_⟩
      · rw [e]; rfl
      · rw [e]
        exact trivial)
    (g := F0 m pc lsR (.int n :: .int dp :: .ref (B + i1) :: .int sp :: .ref (B + i0) :: rest)) rfl (by rw [hml]) (rest := rest) rfl (by rw [hb]; exact hdg) hframes (by show 2 * 0 + _ + _ ≤ _; simp only [nativeFrameWords]; simp; omega)
  have e1 : copied (vp_cell (dA 0) (n0, .inl f)) (vp_cell (dA 0) (n1, .inl g)) sp dp n = vp_cell (dA 0) (n1, .inl (va_cpy f g sp.toNatClampNeg dp.toNatClampNeg n.toNatClampNeg)) := va_copied (fun z => .int z) (dA 0) (dA 0) f g h4
  rw [e1] at X' step
  have hl : B + i1 < H.size := (Array.getElem?_eq_some_iff.mp hc1).1
  have hheap : ((T.setVm vm').setCell (B + i1) (vp_cell (dA 0) (n1, .inl (va_cpy f g sp.toNatClampNeg dp.toNatClampNeg n.toNatClampNeg)))).heap = H.setIfInBounds (B + i1) (vp_cell (dA 0) (n1, .inl (va_cpy f g sp.toNatClampNeg dp.toNatClampNeg n.toNatClampNeg))) := by rw [← hT]; rfl
  have oq : ∀ q : Nat, q ≠ B + i1 → (H.setIfInBounds (B + i1) (vp_cell (dA 0) (n1, .inl (va_cpy f g sp.toNatClampNeg dp.toNatClampNeg n.toNatClampNeg))))[q]? = H[q]? := fun q hq => by simp [Array.getElem?_setIfInBounds, Ne.symm hq]
  obtain ⟨t, a1, b1⟩ := kk _ _ ⟨by simp; exact hS.1, fun q g1 g2 => by
      rw [oq q (fun e => g2 (by rw [e]; exact Nat.le_add_right B i1))]
      exact hS.2.1 q g1 g2, fun q hq => by
      rcases List.mem_append.mp hq with h | h
      · exact hS.2.2 q h
      · obtain ⟨z, -, hz⟩ := List.mem_map.mp h
        rw [← hz]
        exact Nat.le_add_right B i1⟩ (rp_set hR ha1 (show (H.setIfInBounds (B + i1) _)[B + i1]? = some _ by simp [Array.getElem?_setIfInBounds, hl]) (by simp) oq) _ hheap X'
  exact ⟨t, step t a1, b1⟩
end HEAP
end
section
/-! W follows the machine of part 03: every instruction that neither calls nor returns. -/
section STEP
variable {B b : Nat} {D : va_G} {dA : Nat → ClassId} {p : Program} {l : Launch} {ev : Env} {R : Room} {s : State} {m : MethodId} {args : Array Value} {below : List Frame} {meth : Method} {c : Code} {H : Heap} {locs : List Loc} {cells slots : Nat} {Q : State → Prop} {y : Nat} {sc : Scr} {h : AHp} {lsR : Array Slot} {ls stk : List Value}
theorem w0 {g : JFrame} (k : W p l ev R s m args below meth c H locs (cells + (h.length - h.length)) (slots + (szH h - szH h)) Q g) : W p l ev R s m args below meth c H locs cells slots Q g := by
  rw [Nat.sub_self, Nat.sub_self, Nat.add_zero, Nat.add_zero] at k
  exact k
theorem w1 {i : Nat} {e0 e : AE} (hi : h[i]? = some e0) (hz : szE e = szE e0) {g : JFrame} (k : W p l ev R s m args below meth c H locs (cells + ((h.set i e).length - h.length)) (slots + (szH (h.set i e) - szH h)) Q g) : W p l ev R s m args below meth c H locs cells slots Q g := by
  rw [List.length_set, szH_set hi hz, Nat.sub_self, Nat.sub_self, Nat.add_zero, Nat.add_zero] at k
  exact k
theorem w2 {e : AE} {g : JFrame} (k : W p l ev R s m args below meth c H locs (cells + ((h ++ [e]).length - h.length)) (slots + (szH (h ++ [e]) - szH h)) Q g) : W p l ev R s m args below meth c H locs (cells + 1) (slots + szE e) Q g := by
  rw [List.length_append, szH_push, Nat.add_sub_cancel_left, Nat.add_sub_cancel_left] at k
  exact k
theorem cat_map (r : List Value) (h8 : r.length ≤ 8) (hc : r.all (fun v => v.category == 1) = true) : ((r.map (tv B b)).map fun v => v.category).sum ≤ 8 := by
  have key : ∀ r : List Value, r.all (fun v => v.category == 1) = true → ((r.map (tv B b)).map fun v => v.category).sum = r.length := by
    intro r
    induction r with
    | nil => intro _; rfl
    | cons v r ih =>
      intro hr
      simp only [List.all_cons, Bool.and_eq_true, beq_iff_eq] at hr
      simp only [List.map_cons, List.sum_cons, List.length_cons, ih hr.2, tv_cat, hr.1]
      omega
  rw [key r hc]
  exact h8
set_option maxHeartbeats 4000000 in
theorem ex1_snd (C : Cx B b D dA p R s m args meth c y sc) (hS : va_S (fun q : Nat => B ≤ q) s.heap H locs) (hR : Rp B b D dA h H) (hl : LV B b (mMaxL y) ls lsR) {e : Ent} (he : e ∈ kOf y) {q : Cfg} (hx : ex1 sc e ls stk h = some q) (hc : cells + (q.2.2.2.length - h.length) ≤ R.cells) (hs : slots + (szH q.2.2.2 - szH h) ≤ R.slots)
    (kk : ∀ (H1 : Heap) (locs1 : List Loc) (lsR1 : Array Slot), va_S (fun q : Nat => B ≤ q) s.heap H1 locs1 → Rp B b D dA q.2.2.2 H1 → LV B b (mMaxL y) q.2.1 lsR1 → W p l ev R s m args below meth c H1 locs1 (cells + (q.2.2.2.length - h.length)) (slots + (szH q.2.2.2 - szH h)) Q (F0 m q.1 lsR1 (q.2.2.1.map (tv B b)))) : W p l ev R s m args below meth c H locs cells slots Q (F0 m e.1 lsR (stk.map (tv B b))) := by
  obtain ⟨hexec, hb, hml, hown, hws, hK, hini, hfr, hlo, ⟨hy, hK1, hK2, hK3, hK4⟩, hBs, hsc⟩ := id C
  have hok := List.all_eq_true.mp (hK1 y hy) e he
  have hnd := hK2 y hy e he
  unfold eok at hok
  rw [Bool.and_eq_true, decide_eq_true_eq] at hok
  obtain ⟨hd, hau⟩ := hok
  have wd : ∀ w ∈ needs y e, w.before args s = true := fun w hw => hws w (hnd w hw).1 (hnd w hw).2
  obtain ⟨pc, i, r1, r2⟩ := e
  cases i with
  | iconst n =>
    dsimp only [ex1] at hx
    cases hx
    exact lv_iconst hexec hb hd rfl (w0 (kk H locs lsR hS hR hl))
  | bipush n =>
    dsimp only [ex1] at hx
    cases hx
    exact lv_bipush hexec hb hd rfl (w0 (kk H locs lsR hS hR hl))
  | sipush n =>
    dsimp only [ex1] at hx
    cases hx
    exact lv_sipush hexec hb hd rfl (w0 (kk H locs lsR hS hR hl))
  | ldc n =>
    dsimp only [ex1] at hx
    cases hx
    exact lv_ldc hexec hb hown (wd _ List.mem_cons_self) hd (w0 (kk H locs lsR hS hR hl))
  | ldc_w n =>
    dsimp only [ex1] at hx
    cases hx
    exact lv_ldcw hexec hb hown (wd _ List.mem_cons_self) hd (w0 (kk H locs lsR hS hR hl))
  | aconst_null =>
    dsimp only [ex1] at hx
    cases hx
    exact lv_null hexec hb hd (w0 (kk H locs lsR hS hR hl))
  | iload_n k =>
    dsimp only [ex1] at hx
    split at hx
    · rename_i x hv
      cases hx
      exact lv_iload_n hexec hb hd rfl (hl.get hv rfl) (w0 (kk H locs lsR hS hR hl))
    · cases hx
  | iload k =>
    dsimp only [ex1] at hx
    split at hx
    · rename_i x hv
      cases hx
      exact lv_iload hexec hb hd (hl.get hv rfl) (w0 (kk H locs lsR hS hR hl))
    · cases hx
  | aload_n k =>
    dsimp only [ex1] at hx
    split at hx
    · rename_i x hv
      cases hx
      exact lv_aload_n hexec hb hd rfl (hl.get hv rfl) (w0 (kk H locs lsR hS hR hl))
    · rename_i x hv
      cases hx
      exact lv_aload_n hexec hb hd rfl (hl.get hv rfl) (w0 (kk H locs lsR hS hR hl))
    · rename_i hv
      cases hx
      exact lv_aload_nN hexec hb hd rfl (hl.get hv rfl) (w0 (kk H locs lsR hS hR hl))
    · cases hx
  | aload k =>
    dsimp only [ex1] at hx
    split at hx
    · rename_i x hv
      cases hx
      exact lv_aload hexec hb hd (hl.get hv rfl) (w0 (kk H locs lsR hS hR hl))
    · cases hx
  | istore_n k =>
    dsimp only [ex1] at hx
    split at hx
    · rename_i x r
      split at hx
      · rename_i hi
        cases hx
        rw [hl.2.1] at hi
        exact lv_istore_n hexec hb hd rfl hl.has hi rfl (fun ls' h' => w0 (kk H locs ls' hS hR (hl.put rfl hi h')))
      · cases hx
    · cases hx
  | istore k =>
    dsimp only [ex1] at hx
    split at hx
    · rename_i x r
      split at hx
      · rename_i hi
        cases hx
        rw [hl.2.1] at hi
        exact lv_istore hexec hb hd hl.has hi rfl (fun ls' h' => w0 (kk H locs ls' hS hR (hl.put rfl hi h')))
      · cases hx
    · cases hx
  | astore_n k =>
    dsimp only [ex1] at hx
    split at hx
    · rename_i x r
      split at hx
      · rename_i hi
        cases hx
        rw [hl.2.1] at hi
        exact lv_astore_n hexec hb hd rfl hl.has hi rfl (fun ls' h' => w0 (kk H locs ls' hS hR (hl.put (v := .ref x) rfl hi h')))
      · cases hx
    · rename_i r
      split at hx
      · rename_i hi
        cases hx
        rw [hl.2.1] at hi
        exact lv_astore_nN hexec hb hd rfl hl.has hi rfl (fun ls' h' => w0 (kk H locs ls' hS hR (hl.put (v := .null) rfl hi h')))
      · cases hx
    · cases hx
  | astore k =>
    dsimp only [ex1] at hx
    split at hx
    · rename_i x r
      split at hx
      · rename_i hi
        cases hx
        rw [hl.2.1] at hi
        exact lv_astore hexec hb hd hl.has hi rfl (fun ls' h' => w0 (kk H locs ls' hS hR (hl.put (v := .ref x) rfl hi h')))
      · cases hx
    · cases hx
  | iinc k n =>
    dsimp only [ex1] at hx
    split at hx
    · rename_i x hv
      cases hx
      have hi : k < mMaxL y := by rw [← hl.2.1]; exact (List.getElem?_eq_some_iff.mp hv).1
      obtain ⟨j, hj⟩ := LV.at (B := B) (b := b) hv rfl
      exact lv_iinc hexec hb hd hl.has hj rfl hi rfl (fun ls' h' => w0 (kk H locs ls' hS hR (hl.put (v := .int (x + Int32.ofInt n)) rfl hi h')))
    · cases hx
  | iadd =>
    dsimp only [ex1] at hx
    split at hx
    · cases hx
      exact lv_iadd hexec hb hd (w0 (kk H locs lsR hS hR hl))
    · cases hx
  | isub =>
    dsimp only [ex1] at hx
    split at hx
    · cases hx
      exact lv_isub hexec hb hd (w0 (kk H locs lsR hS hR hl))
    · cases hx
  | imul =>
    dsimp only [ex1] at hx
    split at hx
    · cases hx
      exact lv_imul hexec hb hd (w0 (kk H locs lsR hS hR hl))
    · cases hx
  | iand =>
    dsimp only [ex1] at hx
    split at hx
    · cases hx
      exact lv_iand hexec hb hd (w0 (kk H locs lsR hS hR hl))
    · cases hx
  | ior =>
    dsimp only [ex1] at hx
    split at hx
    · cases hx
      exact lv_ior hexec hb hd (w0 (kk H locs lsR hS hR hl))
    · cases hx
  | ixor =>
    dsimp only [ex1] at hx
    split at hx
    · cases hx
      exact lv_ixor hexec hb hd (w0 (kk H locs lsR hS hR hl))
    · cases hx
  | ishl =>
    dsimp only [ex1] at hx
    split at hx
    · cases hx
      exact lv_ishl hexec hb hd (w0 (kk H locs lsR hS hR hl))
    · cases hx
  | ishr =>
    dsimp only [ex1] at hx
    split at hx
    · cases hx
      exact lv_ishr hexec hb hd (w0 (kk H locs lsR hS hR hl))
    · cases hx
  | iushr =>
    dsimp only [ex1] at hx
    split at hx
    · cases hx
      exact lv_iushr hexec hb hd rfl (w0 (kk H locs lsR hS hR hl))
    · cases hx
  | irem =>
    dsimp only [ex1] at hx
    split at hx
    · split at hx
      · cases hx
      · rename_i hne
        cases hx
        exact lv_irem hexec hb hd hne (w0 (kk H locs lsR hS hR hl))
    · cases hx
  | dup =>
    dsimp only [ex1] at hx
    split at hx
    · split at hx
      · rename_i hv
        cases hx
        exact lv_dup hexec hb hd (by rw [tv_cat]; exact hv) (w0 (kk H locs lsR hS hR hl))
      · cases hx
    · cases hx
  | dup2 =>
    dsimp only [ex1] at hx
    split at hx
    · split at hx
      · rename_i hv
        cases hx
        exact lv_dup2_11 hexec hb hd (by rw [tv_cat]; exact hv.1) (by rw [tv_cat]; exact hv.2) (w0 (kk H locs lsR hS hR hl))
      · cases hx
    · cases hx
  | pop =>
    dsimp only [ex1] at hx
    split at hx
    · split at hx
      · rename_i hv
        cases hx
        exact lv_pop hexec hb hd (by rw [tv_cat]; exact hv) (w0 (kk H locs lsR hS hR hl))
      · cases hx
    · cases hx
  | goto o =>
    dsimp only [ex1] at hx
    cases hx
    exact lv_goto hexec hb hd (pcT_ok (e := (pc, .goto o, r1, r2)) hau) (w0 (kk H locs lsR hS hR hl))
  | ifCond cc o =>
    dsimp only [ex1] at hx
    split at hx
    · rename_i xv r
      cases hx
      have k0 := w0 (kk H locs lsR hS hR hl)
      have ht := pcT_ok (e := (pc, .ifCond cc o, r1, r2)) hau
      cases cc with
      | eq => exact lv_if_eq hexec hb hd ht (fun hq => by rw [if_pos (show cB .eq xv 0 = true from decide_eq_true hq)] at k0; exact k0) (fun hq => by rw [if_neg (show ¬ cB .eq xv 0 = true from fun z => hq (of_decide_eq_true z))] at k0; exact k0)
      | ne => exact lv_if_ne hexec hb hd ht (fun hq => by rw [if_pos (show cB .ne xv 0 = true from decide_eq_true hq)] at k0; exact k0) (fun hq => by rw [if_neg (show ¬ cB .ne xv 0 = true from fun z => (of_decide_eq_true z) hq)] at k0; exact k0)
      | lt => exact lv_if_lt hexec hb hd ht (fun hq => by rw [if_pos (show cB .lt xv 0 = true from decide_eq_true hq)] at k0; exact k0) (fun hq => by rw [if_neg (show ¬ cB .lt xv 0 = true from fun z => hq (of_decide_eq_true z))] at k0; exact k0)
      | ge => exact lv_if_ge hexec hb hd ht (fun hq => by rw [if_pos (show cB .ge xv 0 = true from decide_eq_true hq)] at k0; exact k0) (fun hq => by rw [if_neg (show ¬ cB .ge xv 0 = true from fun z => hq (of_decide_eq_true z))] at k0; exact k0)
      | gt => exact lv_if_gt hexec hb hd ht (fun hq => by rw [if_pos (show cB .gt xv 0 = true from decide_eq_true hq)] at k0; exact k0) (fun hq => by rw [if_neg (show ¬ cB .gt xv 0 = true from fun z => hq (of_decide_eq_true z))] at k0; exact k0)
      | le => exact lv_if_le hexec hb hd ht (fun hq => by rw [if_pos (show cB .le xv 0 = true from decide_eq_true hq)] at k0; exact k0) (fun hq => by rw [if_neg (show ¬ cB .le xv 0 = true from fun z => hq (of_decide_eq_true z))] at k0; exact k0)
    · cases hx
  | if_icmp cc o =>
    dsimp only [ex1] at hx
    split at hx
    · rename_i yv xv r
      cases hx
      have k0 := w0 (kk H locs lsR hS hR hl)
      have ht := pcT_ok (e := (pc, .if_icmp cc o, r1, r2)) hau
      cases cc with
      | eq => exact lv_icmp_eq hexec hb hd ht (fun hq => by rw [if_pos (show cB .eq xv yv = true from decide_eq_true hq)] at k0; exact k0) (fun hq => by rw [if_neg (show ¬ cB .eq xv yv = true from fun z => hq (of_decide_eq_true z))] at k0; exact k0)
      | ne => exact lv_icmp_ne hexec hb hd ht (fun hq => by rw [if_pos (show cB .ne xv yv = true from decide_eq_true hq)] at k0; exact k0) (fun hq => by rw [if_neg (show ¬ cB .ne xv yv = true from fun z => (of_decide_eq_true z) hq)] at k0; exact k0)
      | lt => exact lv_icmp_lt hexec hb hd ht (fun hq => by rw [if_pos (show cB .lt xv yv = true from decide_eq_true hq)] at k0; exact k0) (fun hq => by rw [if_neg (show ¬ cB .lt xv yv = true from fun z => hq (of_decide_eq_true z))] at k0; exact k0)
      | ge => exact lv_icmp_ge hexec hb hd ht (fun hq => by rw [if_pos (show cB .ge xv yv = true from decide_eq_true hq)] at k0; exact k0) (fun hq => by rw [if_neg (show ¬ cB .ge xv yv = true from fun z => hq (of_decide_eq_true z))] at k0; exact k0)
      | gt => exact lv_icmp_gt hexec hb hd ht (fun hq => by rw [if_pos (show cB .gt xv yv = true from decide_eq_true hq)] at k0; exact k0) (fun hq => by rw [if_neg (show ¬ cB .gt xv yv = true from fun z => hq (of_decide_eq_true z))] at k0; exact k0)
      | le => exact lv_icmp_le hexec hb hd ht (fun hq => by rw [if_pos (show cB .le xv yv = true from decide_eq_true hq)] at k0; exact k0) (fun hq => by rw [if_neg (show ¬ cB .le xv yv = true from fun z => hq (of_decide_eq_true z))] at k0; exact k0)
    · cases hx
  | ifnull o =>
    dsimp only [ex1] at hx
    split at hx
    · cases hx
      exact lv_ifnull hexec hb hd (w0 (kk H locs lsR hS hR hl))
    · cases hx
      exact lv_ifnullN hexec hb hd (pcT_ok (e := (pc, .ifnull o, r1, r2)) hau) (w0 (kk H locs lsR hS hR hl))
    · cases hx
  | ifnonnull o =>
    dsimp only [ex1] at hx
    split at hx
    · cases hx
      exact lv_ifnonnull hexec hb hd (pcT_ok (e := (pc, .ifnonnull o, r1, r2)) hau) (w0 (kk H locs lsR hS hR hl))
    · cases hx
      exact lv_ifnonnullN hexec hb hd (w0 (kk H locs lsR hS hR hl))
    · cases hx
  | tableswitch d lo hi os =>
    dsimp only [ex1] at hx
    rw [Bool.and_eq_true] at hau
    obtain ⟨ha1, ha2⟩ := hau
    split at hx
    · rename_i xv r
      split at hx
      · rename_i hsw
        cases hx
        have k0 := w0 (kk H locs lsR hS hR hl)
        by_cases hq : xv.toInt < lo ∨ hi < xv.toInt
        · refine lv_tableOut hexec hb hd hq (pcT_ok (e := (pc, .tableswitch d lo hi os, r1, r2)) ha1) ?_
          dsimp only [swT] at k0
          rw [if_pos hq] at k0
          exact k0
        · have hsw2 : (os[(xv.toInt - lo).toNat]?).isSome = true := by
            rcases (Bool.or_eq_true _ _).mp hsw with z | z
            · exact absurd (of_decide_eq_true z) hq
            · exact z
          obtain ⟨o, ho⟩ := Option.isSome_iff_exists.mp hsw2
          have hto : tgtOk (pc, .tableswitch d lo hi os, r1, r2) o = true := List.all_eq_true.mp ha2 o (by
            have := List.mem_of_getElem? (l := os.toList) (i := (xv.toInt - lo).toNat) (by rw [Array.getElem?_toList]; exact ho)
            exact this)
          refine lv_tableIn hexec hb hd (fun z => hq (Or.inl z)) (fun z => hq (Or.inr z)) ho (pcT_ok (e := (pc, .tableswitch d lo hi os, r1, r2)) hto) ?_
          dsimp only [swT] at k0
          rw [if_neg hq, ho] at k0
          exact k0
      · cases hx
    · cases hx
  | lookupswitch d ps =>
    dsimp only [ex1] at hx
    rw [Bool.and_eq_true, Bool.and_eq_true] at hau
    obtain ⟨⟨ha1, ha2⟩, ha3⟩ := hau
    split at hx
    · rename_i xv r
      cases hx
      have hto : tgtOk (pc, .lookupswitch d ps, r1, r2) (Op.lookupswitch.offset ps.toList d xv.toInt) = true := by
        have key : ∀ (l : List (Int × Int)), (∀ q ∈ l, tgtOk (pc, .lookupswitch d ps, r1, r2) q.2 = true) → tgtOk (pc, .lookupswitch d ps, r1, r2) (Op.lookupswitch.offset l d xv.toInt) = true := by
          intro l
          induction l with
          | nil => intro _; exact ha1
          | cons q l ih =>
            intro hq
            obtain ⟨a, o⟩ := q
            rw [Op.lookupswitch.offset_cons]
            split
            · exact hq _ List.mem_cons_self
            · exact ih (fun z hz => hq z (List.mem_cons_of_mem _ hz))
        exact key _ (fun q hq => List.all_eq_true.mp ha2 q hq)
      exact lv_lookup hexec hb hd ha3 rfl (pcT_ok (e := (pc, .lookupswitch d ps, r1, r2)) hto) (w0 (kk H locs lsR hS hR hl))
    · cases hx
  | arraylength =>
    dsimp only [ex1] at hx
    split at hx
    · rename_i a r L xs
      cases hx
      obtain ⟨hX, hbB⟩ := hsc L xs rfl
      exact va_slen hexec hb hX (Nat.lt_of_lt_of_le hbB hBs) (Nat.not_le.mpr hbB) hS hd (w0 (kk H locs lsR hS hR hl))
    · cases hx
  | iaload =>
    dsimp only [ex1] at hx
    split at hx
    · rename_i j a r
      split at hx
      · rename_i n f hv
        split at hx
        · cases hx
        · rename_i hj
          cases hx
          exact rp_iald C hR hv hj hd (w0 (kk H locs lsR hS hR hl))
      · cases hx
    · rename_i j a r
      split at hx
      · rename_i L xs
        split at hx
        · cases hx
        · rename_i hj
          cases hx
          obtain ⟨hX, hbB⟩ := hsc L xs rfl
          exact va_sld hexec hb hX (Nat.lt_of_lt_of_le hbB hBs) (Nat.not_le.mpr hbB) hS hj hd (w0 (kk H locs lsR hS hR hl))
      · cases hx
    · cases hx
  | iastore =>
    dsimp only [ex1] at hx
    split at hx
    · rename_i x j a r
      split at hx
      · rename_i n f hv
        split at hx
        · cases hx
        · rename_i hj
          cases hx
          exact rp_iast C hS hR hv hj hd (fun H1 locs1 hS1 hR1 => w1 hv (by rfl) (kk H1 locs1 lsR hS1 hR1 hl))
      · cases hx
    · cases hx
  | aaload =>
    dsimp only [ex1] at hx
    split at hx
    · rename_i j a r
      split at hx
      · rename_i k n f hv
        split at hx
        · cases hx
        · rename_i hj
          cases hx
          exact rp_aald C hR hv (fun z => hj (by rcases z with z | z; exact Or.inl z; exact Or.inr (Or.inl z))) (fun z => hj (Or.inr (Or.inr z))) hd (w0 (kk H locs lsR hS hR hl))
      · cases hx
    · cases hx
  | aastore =>
    dsimp only [ex1] at hx
    split at hx
    · rename_i v j a r
      split at hx
      · rename_i k n f c0 fs hv hv2
        split at hx
        · cases hx
        · rename_i hj
          have hc0 : c0 = kindC k := Classical.byContradiction fun z => hj (Or.inr (Or.inr (Or.inl z)))
          subst hc0
          cases hx
          exact rp_aast C hS hR hv hv2 (fun z => hj (by rcases z with z | z; exact Or.inl z; exact Or.inr (Or.inl z))) (fun z => hj (Or.inr (Or.inr (Or.inr z)))) hd (fun H1 locs1 hS1 hR1 => w1 hv (by rfl) (kk H1 locs1 lsR hS1 hR1 hl))
      · cases hx
    · cases hx
  | newarray t =>
    have ht : t = .int := of_decide_eq_true hau
    subst ht
    dsimp only [ex1] at hx
    split at hx
    · rename_i n r
      split at hx
      · cases hx
      · rename_i hn
        cases hx
        dsimp only at hc hs
        rw [szH_push, Nat.add_sub_cancel_left] at hs
        rw [List.length_append, Nat.add_sub_cancel_left] at hc
        refine rp_newa C hS hR (wd _ List.mem_cons_self) hn hc hs hd (fun H1 hS1 hR1 => ?_)
        have k0 := kk H1 locs lsR hS1 hR1 hl
        rw [szH_push, Nat.add_sub_cancel_left] at k0
        rw [List.length_append, Nat.add_sub_cancel_left] at k0
        exact k0
    · cases hx
  | anewarray idx =>
    have hk : ¬ (r1 = 0 ∨ 4 ≤ r1) := by
      have h1 : (r1 = 1 ∨ r1 = 2) ∨ r1 = 3 := by simpa using hau
      omega
    dsimp only [ex1] at hx
    split at hx
    · rename_i n r
      split at hx
      · cases hx
      · rename_i hn
        cases hx
        dsimp only at hc hs
        rw [szH_push, Nat.add_sub_cancel_left] at hs
        rw [List.length_append, Nat.add_sub_cancel_left] at hc
        refine rp_newq C hS hR hk (wd _ List.mem_cons_self) (wd _ (List.mem_cons_of_mem _ List.mem_cons_self)) hn hc hs hd (fun H1 hS1 hR1 => ?_)
        have k0 := kk H1 locs lsR hS1 hR1 hl
        rw [szH_push, Nat.add_sub_cancel_left] at k0
        rw [List.length_append, Nat.add_sub_cancel_left] at k0
        exact k0
    · cases hx
  | new idx =>
    have hci : r1 < 6 := of_decide_eq_true hau
    dsimp only [ex1] at hx
    cases hx
    dsimp only at hc hs
    rw [szH_push, Nat.add_sub_cancel_left] at hs
    rw [List.length_append, Nat.add_sub_cancel_left] at hc
    refine rp_new C hS hR hci (wd _ List.mem_cons_self) (wd _ (List.mem_cons_of_mem _ List.mem_cons_self)) (wd _ (List.mem_cons_of_mem _ (List.mem_cons_of_mem _ List.mem_cons_self))) hc hs hd (fun H1 hS1 hR1 => ?_)
    have k0 := kk H1 locs lsR hS1 hR1 hl
    rw [szH_push, Nat.add_sub_cancel_left] at k0
    rw [List.length_append, Nat.add_sub_cancel_left] at k0
    exact k0
  | getfield idx =>
    rw [Bool.and_eq_true, decide_eq_true_eq, decide_eq_true_eq] at hau
    dsimp only [ex1] at hx
    split at hx
    · rename_i a r
      split at hx
      · rename_i c0 fs hv
        split at hx
        · rename_i hc0
          subst hc0
          split at hx
          · rename_i v hf
            cases hx
            exact rp_get C hR hv hau.1 hau.2 (wd _ List.mem_cons_self) hf hd (w0 (kk H locs lsR hS hR hl))
          · cases hx
        · cases hx
      · cases hx
    · cases hx
  | putfield idx =>
    rw [Bool.and_eq_true, Bool.and_eq_true, decide_eq_true_eq, decide_eq_true_eq] at hau
    obtain ⟨⟨ha1, ha2⟩, ha3⟩ := hau
    dsimp only [ex1] at hx
    split at hx
    · rename_i v a r
      split at hx
      · rename_i c0 fs hv
        split at hx
        · rename_i hc0
          obtain ⟨hc1, hc2, hc3⟩ := hc0
          subst hc1
          cases hx
          refine rp_put C hS hR hv ha1 ha2 hc2 (wd _ List.mem_cons_self) (fun hf => ?_) hc3 hd (fun H1 locs1 hS1 hR1 => w1 hv (by simp [szE]) (kk H1 locs1 lsR hS1 hR1 hl))
          dsimp only at hf
          rw [hf] at ha3
          simpa using ha3
        · cases hx
      · cases hx
    · cases hx
  | invokespecial idx =>
    dsimp only [ex1] at hx
    split at hx
    · rename_i hobj
      subst hobj
      rw [if_pos rfl, Bool.and_eq_true, decide_eq_true_eq, decide_eq_true_eq] at hau
      have wd2 : ∀ w ∈ ([.methodLink (mOwn y) idx objectInit, .instanceMethod objectInit, .code objectInit ⟨#[0xb1]⟩ 1 none] : List Cond), w.before args s = true := by
        intro w hw
        refine wd w ?_
        dsimp only [needs]
        rw [if_pos rfl]
        exact hw
      split at hx
      · rename_i a r
        split at hx
        · rename_i hr
          cases hx
          exact W.objInit hexec hb hown (wd2 _ List.mem_cons_self) (wd2 _ (List.mem_cons_of_mem _ List.mem_cons_self)) (wd2 _ (List.mem_cons_of_mem _ (List.mem_cons_of_mem _ List.mem_cons_self))) rfl (by rw [hml]; exact hl.1) rfl hd (Nat.le_trans hau.1 hfr) (by
            have := cat_map (B := B) (b := b) r hr.1 hr.2
            show 2 * 0 + ((r.map (tv B b)).map fun v => v.category).sum + 12 ≤ R.locals
            omega) (w0 (kk H locs lsR hS hR hl))
        · cases hx
      · cases hx
    · cases hx
  | invokestatic idx =>
    dsimp only [ex1] at hx
    split at hx
    · rename_i hobj
      subst hobj
      rw [if_pos rfl, Bool.and_eq_true, decide_eq_true_eq, decide_eq_true_eq] at hau
      have wd2 : ∀ w ∈ ([.methodLink (mOwn y) idx arraycopyName, .native arraycopyName, .static arraycopyName, .initialized "java/lang/System"] : List Cond), w.before args s = true := by
        intro w hw
        refine wd w ?_
        dsimp only [needs]
        rw [if_pos rfl]
        exact hw
      split at hx
      · rename_i n dp a sp a0 r
        split at hx
        · rename_i n0 f n1 g hv0 hv1
          split at hx
          · cases hx
          · rename_i hj
            cases hx
            have hj6 : r.length ≤ 8 ∧ r.all (fun v => v.category == 1) = true := Classical.byContradiction fun z => hj (Or.inr (Or.inr (Or.inr (Or.inr (Or.inr z)))))
            refine rp_copy C hS hR (hml.trans hl.1.symm) (wd2 _ List.mem_cons_self) (wd2 _ (List.mem_cons_of_mem _ List.mem_cons_self)) (wd2 _ (List.mem_cons_of_mem _ (List.mem_cons_of_mem _ List.mem_cons_self))) (wd2 _ (List.mem_cons_of_mem _ (List.mem_cons_of_mem _ (List.mem_cons_of_mem _ List.mem_cons_self)))) hv0 hv1 (fun z => hj (Or.inl z)) (fun z => hj (Or.inr (Or.inl z))) (fun z => hj (Or.inr (Or.inr (Or.inl z)))) (Nat.not_lt.mp fun z => hj (Or.inr (Or.inr (Or.inr (Or.inl z))))) (Nat.not_lt.mp fun z => hj (Or.inr (Or.inr (Or.inr (Or.inr (Or.inl z)))))) (Nat.le_trans hau.1 hfr) ?_ hd (fun H1 locs1 hS1 hR1 => w1 hv1 (by rfl) (kk H1 locs1 lsR hS1 hR1 hl))
            have := cat_map (B := B) (b := b) r hj6.1 hj6.2
            omega
        · cases hx
      · cases hx
    · cases hx
  | _ => exact absurd hx (by simp [ex1])
end STEP
end
section
/-! W follows a whole run: calls by induction on the fuel. -/
def wsF (y : Nat) : List Cond := .code (mName y) (mCode y) (mMaxL y) (mRet y) :: GW
def rmF (y mc ms : Nat) : Room := { frames := mFr y, cells := mc, slots := ms, locals := mLo y }
def PcA (B b : Nat) (D : va_G) (dA : Nat → ClassId) (as : List Value) (h : AHp) : Array Value → State → Prop := va_Pc (as.map (tv B b)) (fun U => Rp B b D dA h U.heap ∧ va_K D vwCl (tysL dA) U ∧ ∀ w ∈ NW, va_Nw w U)
def QcA (B b : Nat) (D : va_G) (dA : Nat → ClassId) (rv : Option Value) (h' : AHp) : Array Value → State → Outcome → State → Prop := fun _ st oc t => (oc = .returned (rv.map (tv B b)) ∧ Rp B b D dA h' t.heap) ∧ va_F (fun q : Nat => B ≤ q) st t
def CallOK (n : Nat) : Prop := ∀ (l : Launch) (B b : Nat) (D : va_G) (dA : Nat → ClassId) (z : Nat) (as : List Value) (h : AHp) (rv : Option Value) (h' : AHp), KOK → z < NM → plainName (mName z).cls = true → as.length ≤ mMaxL z → as.all (fun v => v.category == 1) = true → run n none z 0 (ent0 z as) [] h = some (rv, h') →
  Met l (mName z) (wsF z) (rmF z (h'.length - h.length) (szH h' - szH h)) (PcA B b D dA as h) (QcA B b D dA rv h') (h'.length - h.length) (szH h' - szH h) (fun q : Nat => B ≤ q)
def RetAt (y pc : Nat) (rv : Option Value) : Prop := (rv = none ∧ mRet y = none ∧ decode (mCode y) pc = .ok (.return_, 1)) ∨ (∃ v : Int32, rv = some (.int v) ∧ (mRet y = some .int ∨ (mRet y = some .boolean ∧ (v = 0 ∨ v = 1))) ∧ decode (mCode y) pc = .ok (.ireturn, 1)) ∨ (∃ (a : Nat) (cn : String), rv = some (.ref a) ∧ mRet y = some (.object cn) ∧ decode (mCode y) pc = .ok (.areturn, 1))
theorem nw_car {w : Cond} (h : w ∈ NW) : w ∈ lw_tbl ∧ carW w = true := List.mem_filter.mp h
theorem nw_warm {w : Cond} (hw : carW w = true) {s U : State} (hW : s.WarmedH U.vm) (h : va_Nw w s) : va_Nw w U := by
  unfold carW at hw
  split at hw
  · exact va_Nw.warmM hW h
  · exact va_AO.moved hW.alike h
  · cases hw
theorem nw_same {w : Cond} (hw : carW w = true) {u U : State} (h : u.vm = U.vm) (hZ : va_Nw w u) : va_Nw w U := by
  unfold carW at hw
  split at hw
  · exact va_Nw.same rfl h hZ
  · exact va_AO.moved (by rw [h]; exact Vm.Alike.refl _) hZ
  · cases hw
theorem nw_of {w : Cond} (hw : carW w = true) {A : Array Value} {U : State} (h : w.before A U = true) : va_Nw w U := by
  unfold carW at hw
  split at hw
  · exact va_Nw.of rfl h
  · exact h
  · cases hw
theorem nw_use {w : Cond} (hw : carW w = true) {A : Array Value} {U : State} (h : va_Nw w U) : w.before A U = true := by
  unfold carW at hw
  split at hw
  · exact va_Nw.use rfl h
  · exact h
  · cases hw
theorem ex1_mono {sc : Scr} {e : Ent} {ls stk : List Value} {h : AHp} {q : Cfg} (hx : ex1 sc e ls stk h = some q) : h.length ≤ q.2.2.2.length ∧ szH h ≤ szH q.2.2.2 := by
  have key : q.2.2.2 = h ∨ (∃ i e0 e, h[i]? = some e0 ∧ szE e = szE e0 ∧ q.2.2.2 = h.set i e) ∨ ∃ e, q.2.2.2 = h ++ [e] := by
    obtain ⟨pc, i, r1, r2⟩ := e
    cases i <;> dsimp only [ex1] at hx <;> (repeat' split at hx) <;> first
      | (cases hx; done)
      | (cases hx; exact Or.inl rfl)
      | (cases hx; exact Or.inr (Or.inr ⟨_, rfl⟩))
      | (cases hx; exact Or.inr (Or.inl ⟨_, _, _, by assumption, by simp [szE], rfl⟩))
  rcases key with h1 | ⟨i, e0, e, h1, h2, h3⟩ | ⟨e, h1⟩
  · rw [h1]; exact ⟨Nat.le_refl _, Nat.le_refl _⟩
  · rw [h3, List.length_set, szH_set h1 h2]; exact ⟨Nat.le_refl _, Nat.le_refl _⟩
  · rw [h1, List.length_append, szH_push]; exact ⟨Nat.le_add_right _ _, Nat.le_add_right _ _⟩
theorem run_mono : ∀ (n : Nat) {sc : Scr} {y pc : Nat} {ls stk : List Value} {h : AHp} {rv : Option Value} {hf : AHp}, run n sc y pc ls stk h = some (rv, hf) → h.length ≤ hf.length ∧ szH h ≤ szH hf := by
  intro n
  induction n with
  | zero => intro sc y pc ls stk h rv hf hx; exact absurd hx (by simp [run])
  | succ n ih =>
    intro sc y pc ls stk h rv hf hx
    unfold run at hx
    split at hx
    · cases hx
    · rename_i e he
      split at hx
      · obtain ⟨q, h1, h2⟩ := Option.bind_eq_some_iff.mp hx
        have a := ex1_mono h1
        have c := ih h2
        exact ⟨Nat.le_trans a.1 c.1, Nat.le_trans a.2 c.2⟩
      · obtain ⟨q, h1, h2⟩ := Option.map_eq_some_iff.mp hx
        cases h2
        exact ⟨Nat.le_refl _, Nat.le_refl _⟩
      · obtain ⟨q, h1, h2⟩ := Option.bind_eq_some_iff.mp hx
        obtain ⟨⟨r1, r2⟩, h3, h4⟩ := Option.bind_eq_some_iff.mp h2
        have a := ih h3
        have c := ih h4
        exact ⟨Nat.le_trans a.1 c.1, Nat.le_trans a.2 c.2⟩
theorem lvargs_mem : ∀ (vs : List Value) (i k : Nat) (v : Value), vs.all (fun v => v.category == 1) = true → vs[k]? = some v → (i + k, v) ∈ lv_args i vs := by
  intro vs
  induction vs with
  | nil => intro i k v _ h; simp at h
  | cons w vs ih =>
    intro i k v hc h
    simp only [List.all_cons, Bool.and_eq_true, beq_iff_eq] at hc
    unfold lv_args
    cases k with
    | zero => simp at h; subst h; exact List.mem_cons_self
    | succ k =>
      refine List.mem_cons_of_mem _ ?_
      rw [if_neg (by rw [hc.1]; decide)]
      have := ih (i + 1) k v hc.2 (by simpa using h)
      rwa [show i + (k + 1) = i + 1 + k by omega]
theorem lgsl_len (vs : List Value) (hc : vs.all (fun v => v.category == 1) = true) : (lg_sl vs).length = vs.length := by
  induction vs with
  | nil => rfl
  | cons w vs ih =>
    simp only [List.all_cons, Bool.and_eq_true, beq_iff_eq] at hc
    have := ih hc.2
    unfold lg_sl at this ⊢
    rw [List.flatMap_cons, List.length_append, this, if_neg (by rw [hc.1]; decide)]
    simp only [List.length_cons, List.length_nil]
    omega
theorem all_tv (B b : Nat) (as : List Value) (h : as.all (fun v => v.category == 1) = true) : (as.map (tv B b)).all (fun v => v.category == 1) = true := by
  simp only [List.all_eq_true, List.mem_map, beq_iff_eq] at h ⊢
  rintro v ⟨w, hw, rfl⟩
  rw [tv_cat]; exact h w hw
/-- the locals at a method's entry -/
theorem LV.entry (B b : Nat) {z : Nat} {as : List Value} (h8 : as.length ≤ mMaxL z) (hc : as.all (fun v => v.category == 1) = true) : LV B b (mMaxL z) (ent0 z as) ((lg_sl (as.map (tv B b)) ++ List.replicate (mMaxL z - (lg_sl (as.map (tv B b))).length) Slot.unset).toArray) := by
  have hc2 := all_tv B b as hc
  have hlen := lgsl_len _ hc2
  rw [List.length_map] at hlen
  obtain ⟨h1, h2, h3⟩ := lv_entry (as.map (tv B b)) (n := mMaxL z) (by rw [hlen]; exact h8)
  refine ⟨h1, by unfold ent0; rw [List.length_append, List.length_replicate]; omega, h2, fun k v hk hv => ?_⟩
  unfold ent0 at hk
  by_cases hl : k < as.length
  · rw [List.getElem?_append_left hl] at hk
    have := lvargs_mem (as.map (tv B b)) 0 k (tv B b v) hc2 (by rw [List.getElem?_map, hk]; rfl)
    rw [Nat.zero_add] at this
    exact h3 _ this
  · rw [List.getElem?_append_right (by omega), List.getElem?_replicate] at hk
    split at hk
    · cases hk; cases hv
    · cases hk
section CALL
variable {B b : Nat} {D : va_G} {dA : Nat → ClassId} {p : Program} {l : Launch} {ev : Env} {R : Room} {s : State} {m : MethodId} {args : Array Value} {below : List Frame} {meth : Method} {c : Code} {H : Heap} {locs : List Loc} {cells slots mc ms : Nat} {Q : State → Prop} {y z : Nat} {sc : Scr} {h h' : AHp} {pc : Nat} {lsR : Array Slot} {rest st0 as : List Value} {rv : Option Value} {a : Array Value}
theorem rp_call (hr : va_Run p l ev R s m args below meth c H locs cells slots mc ms (F0 m pc lsR st0) rest (QcA B b D dA rv h' a) (fun q : Nat => B ≤ q)) (hS : va_S (fun q : Nat => B ≤ q) s.heap H locs)
    (kk : ∀ (H1 : Heap) (locs1 : List Loc), va_S (fun q : Nat => B ≤ q) s.heap H1 locs1 → Rp B b D dA h' H1 → W p l ev R s m args below meth c H1 locs1 (cells + mc) (slots + ms) Q (F0 m (pc + 3) lsR ((rv.map (tv B b)).toList ++ rest))) : W p l ev R s m args below meth c H locs cells slots Q (F0 m pc lsR st0) := by
  intro T hT X
  obtain ⟨v, st₀, t, T', L, h0, X', hL, e1, e2, ⟨⟨hv, hp⟩, hz, hk⟩, st⟩ := hr T hT X
  cases hv
  rw [h0] at hz hk
  obtain ⟨t2, a1, b1⟩ := kk T'.heap (locs ++ L) ⟨Nat.le_trans hS.1 (by rw [e1]; exact hz), fun q h1 h2 => by rw [e1, hk q (Nat.lt_of_lt_of_le h1 hS.1) h2]; exact hS.2.1 q h1 h2, fun q hq => by
      rcases List.mem_append.mp hq with h | h
      · exact hS.2.2 q h
      · exact hL q h⟩ (by rw [e1]; exact hp) T' rfl X'
  exact ⟨t2, st t2 a1, b1⟩
theorem pc_blind : FrameBlind (PcA B b D dA as h) := fun a U g mk q => ⟨q.1, q.2.1, va_K.moved (u := U) (U := U.calling g mk a) (Vm.Alike.refl U.vm) q.2.2.1, fun w hw => nw_same (nw_car hw).2 (u := U) (U := U.calling g mk a) rfl (q.2.2.2 w hw)⟩
theorem Cx.nw (C : Cx B b D dA p R s m args meth c y sc) : ∀ w ∈ NW, va_Nw w s := by
  obtain ⟨-, -, -, -, h, -⟩ := C
  intro w hw
  obtain ⟨h1, h2⟩ := nw_car hw
  exact nw_of h2 (h w h1 (by simp [okW, h2]))
theorem pc_holds (C : Cx B b D dA p R s m args meth c y sc) (hR : Rp B b D dA h H) : ∀ U : State, U.heap = H → s.WarmedH U.vm → PcA B b D dA as h (as.map (tv B b)).toArray U := by
  intro U hU hW
  refine ⟨rfl, by rw [hU]; exact hR, ?_, fun w hw => nw_warm (nw_car hw).2 hW (C.nw w hw)⟩
  obtain ⟨-, -, -, -, -, hK, -⟩ := C
  exact va_K.moved hW.alike hK
theorem ws_stay (C : Cx B b D dA p R s m args meth c y sc) (hcd : Cond.code (mName z) (mCode z) (mMaxL z) (mRet z) ∈ lw_tbl) : ∀ w ∈ wsF z, ∀ (a' : Array Value) (U : State), s.WarmedH U.vm → w.before a' U = true := by
  intro w hw a' U hW
  have hg : goodWord w = true ∧ w ∈ lw_tbl := by
    rcases List.mem_cons.mp hw with rfl | h1
    · exact ⟨rfl, hcd⟩
    · exact ⟨(List.mem_filter.mp h1).2, (List.mem_filter.mp h1).1⟩
  obtain ⟨-, -, -, -, hws, -⟩ := C
  exact word_at hW (good_of_word hg.1) (hws w hg.2 (by simp [okW, hg.1]))
end CALL
end
section
theorem zCall_spec {i : Instr} {z : Nat} {stk as rest : List Value} {h : AHp} (hx : zCall i z stk h = some (as, rest)) : mArgs z ≤ stk.length ∧ stk.length ≤ 8 ∧ stk.all (fun v => v.category == 1) = true ∧ ((∃ idx, i = .invokestatic idx ∧ as = (stk.take (mArgs z)).reverse ∧ stk.drop (mArgs z) = rest) ∨ (∃ idx a c fs, i = .invokevirtual idx ∧ stk.drop (mArgs z) = .ref a :: rest ∧ h[a]? = some (.inr (c, fs)) ∧ c = mCi z ∧ as = .ref a :: (stk.take (mArgs z)).reverse) ∨ (∃ idx a, i = .invokespecial idx ∧ stk.drop (mArgs z) = .ref a :: rest ∧ as = .ref a :: (stk.take (mArgs z)).reverse)) := by
  unfold zCall at hx
  split at hx
  · cases hx
  · rename_i h0
    obtain ⟨h1, h2, h3⟩ := Classical.byContradiction h0
    refine ⟨h1, h2, h3, ?_⟩
    split at hx
    · cases hx
      exact Or.inl ⟨_, rfl, rfl, rfl⟩
    · split at hx
      · rename_i a r hr
        split at hx
        · rename_i c fs hv
          split at hx
          · rename_i hc
            cases hx
            exact Or.inr (Or.inl ⟨_, a, c, fs, rfl, hr, hv, hc, rfl⟩)
          · cases hx
        · cases hx
      · cases hx
    · split at hx
      · rename_i a r hr
        cases hx
        exact Or.inr (Or.inr ⟨_, a, rfl, hr, rfl⟩)
      · cases hx
    · cases hx
section CALLS
variable {B b : Nat} {D : va_G} {dA : Nat → ClassId} {p : Program} {l : Launch} {ev : Env} {R : Room} {s : State} {m : MethodId} {args : Array Value} {below : List Frame} {meth : Method} {c : Code} {H : Heap} {locs : List Loc} {cells slots mc ms : Nat} {Q : State → Prop} {y z : Nat} {sc : Scr} {h h' : AHp} {lsR : Array Slot} {stk rest as : List Value} {rv : Option Value} {e : Ent}
theorem callOk_spec (hk : callOk y z = true) : z < NM ∧ mFr z + 1 ≤ mFr y ∧ 8 + (mMaxL z + 11) + mLo z ≤ mLo y ∧ (parseMethodDescriptor (mName z).desc).map (fun d => d.parameters.length) = some (mArgs z) ∧ (mName z).cls ≠ "java/lang/invoke/MethodHandle" ∧ (mName z).cls ≠ "java/lang/invoke/VarHandle" ∧ mArgs z + (if mStat z then 0 else 1) ≤ mMaxL z ∧ plainName (mName z).cls = true := by
  unfold callOk at hk
  simp only [Bool.and_eq_true, decide_eq_true_eq] at hk
  obtain ⟨⟨⟨⟨⟨⟨⟨h1, h2⟩, h3⟩, h4⟩, h5⟩, h6⟩, h7⟩, h8⟩ := hk
  exact ⟨h1, h2, h3, h4, h5, h6, h7, h8⟩
theorem parse_n (h4 : (parseMethodDescriptor (mName z).desc).map (fun d => d.parameters.length) = some (mArgs z)) : ∀ sig, parseMethodDescriptor (mName z).desc = some sig → mArgs z = sig.parameters.length := by
  intro sig hs
  rw [hs] at h4
  exact (Option.some.inj h4).symm
theorem call_S (C : Cx B b D dA p R s m args meth c y sc) (hS : va_S (fun q : Nat => B ≤ q) s.heap H locs) (hR : Rp B b D dA h H) (hsz : lsR.size = mMaxL y) {idx : Nat} {r2 : Int} {pc : Nat} (he : (pc, .invokestatic idx, z, r2) ∈ kOf y) (hz : ¬ z = ACP)
    (hM : Met l (mName z) (wsF z) (rmF z mc ms) (PcA B b D dA as h) (QcA B b D dA rv h') mc ms (fun q : Nat => B ≤ q)) (hal : mArgs z ≤ stk.length) (h8 : stk.length ≤ 8) (hca : stk.all (fun v => v.category == 1) = true) (has : as = (stk.take (mArgs z)).reverse) (hcl : cells + mc ≤ R.cells) (hsl : slots + ms ≤ R.slots)
    (kk : ∀ (H1 : Heap) (locs1 : List Loc), va_S (fun q : Nat => B ≤ q) s.heap H1 locs1 → Rp B b D dA h' H1 → W p l ev R s m args below meth c H1 locs1 (cells + mc) (slots + ms) Q (F0 m (pc + 3) lsR ((rv.toList ++ stk.drop (mArgs z)).map (tv B b)))) : W p l ev R s m args below meth c H locs cells slots Q (F0 m pc lsR (stk.map (tv B b))) := by
  obtain ⟨hexec, hb, hml, hown, hws, hK, hini, hfr, hlo, ⟨hy, hK1, hK2, hK3, hK4⟩, hBs, hsc⟩ := id C
  have hok := List.all_eq_true.mp (hK1 y hy) _ he
  have hnd := hK2 y hy _ he
  unfold eok at hok
  rw [Bool.and_eq_true, decide_eq_true_eq] at hok
  obtain ⟨hd, hau⟩ := hok
  dsimp only at hau
  rw [if_neg hz, Bool.and_eq_true] at hau
  obtain ⟨k1, k2, k3, k4, k5, k6, k7, k8⟩ := callOk_spec hau.1
  have wd : ∀ w ∈ ([linkW y idx (pc, .invokestatic idx, z, r2), .code (mName z) (mCode z) (mMaxL z) (mRet z), .initialized (mName z).cls, .static (mName z)] : List Cond), w ∈ lw_tbl ∧ w.before args s = true := by
    intro w hw
    have hw2 : w ∈ needs y (pc, .invokestatic idx, z, r2) := by
      dsimp only [needs]
      rw [if_neg hz]
      exact hw
    exact ⟨(hnd w hw2).1, hws w (hnd w hw2).1 (hnd w hw2).2⟩
  have w1 := wd _ List.mem_cons_self
  have w2 := wd _ (List.mem_cons_of_mem _ List.mem_cons_self)
  have w3 := wd _ (List.mem_cons_of_mem _ (List.mem_cons_of_mem _ List.mem_cons_self))
  have w4 := wd _ (List.mem_cons_of_mem _ (List.mem_cons_of_mem _ (List.mem_cons_of_mem _ List.mem_cons_self)))
  have hst : stk.map (tv B b) = (as.map (tv B b)).reverse ++ (stk.drop (mArgs z)).map (tv B b) := by
    rw [has, List.map_reverse, List.reverse_reverse, ← List.map_append, List.take_append_drop]
  have hn : (as.map (tv B b)).length = mArgs z := by rw [List.length_map, has, List.length_reverse, List.length_take]; omega
  have hrs := cat_map (B := B) (b := b) (stk.drop (mArgs z)) (by rw [List.length_drop]; omega) (by
    rw [List.all_eq_true] at hca ⊢
    exact fun v hv => hca v (List.mem_of_mem_drop hv))
  have fin : va_Run p l ev R s m args below meth c H locs cells slots mc ms (F0 m pc lsR (stk.map (tv B b))) ((stk.drop (mArgs z)).map (tv B b)) (QcA B b D dA rv h' (as.map (tv B b)).toArray) (fun q : Nat => B ≤ q) := by
    by_cases hr2 : r2 = 1
    · refine va_runSN (Ts := GW) (index := idx) (host := RX4) ⟨hexec, hb, hml, hown, C.gw⟩ hM ⟨⟨⟨rfl, rfl, Nat.le_trans k2 hfr, Nat.le_trans k3 hlo, ws_stay C w2.1, List.mem_cons_self⟩, w2.2, w3.2, ⟨k5, k6⟩, parse_n k4, ?_⟩, w4.2, trivial⟩ ⟨pc_blind, pc_holds C hR⟩ rfl hn hsz hst (lv_room hrs) hd ⟨hcl, hsl⟩
      have := w1.2
      unfold linkW at this
      rwa [if_pos hr2] at this
    · refine va_runS (Ts := GW) (index := idx) ⟨hexec, hb, hml, hown, C.gw⟩ hM ⟨⟨rfl, rfl, Nat.le_trans k2 hfr, Nat.le_trans k3 hlo, ws_stay C w2.1, List.mem_cons_self, w2.2, w3.2, ⟨k5, k6⟩, parse_n k4, ?_⟩, w4.2⟩ ⟨pc_blind, pc_holds C hR⟩ rfl hn hsz hst (lv_room hrs) hd ⟨hcl, hsl⟩
      have := w1.2
      unfold linkW at this
      rwa [if_neg hr2] at this
  refine rp_call fin hS (fun H1 locs1 hS1 hR1 => ?_)
  have := kk H1 locs1 hS1 hR1
  rw [List.map_append] at this
  have e2 : (rv.map (tv B b)).toList = rv.toList.map (tv B b) := by cases rv <;> rfl
  rw [e2]
  exact this
theorem call_V (C : Cx B b D dA p R s m args meth c y sc) (hS : va_S (fun q : Nat => B ≤ q) s.heap H locs) (hR : Rp B b D dA h H) (hsz : lsR.size = mMaxL y) {idx : Nat} {r2 : Int} {pc : Nat} (he : (pc, .invokevirtual idx, z, r2) ∈ kOf y) {a ca : Nat} {fs : List Value} (ha : h[a]? = some (.inr (ca, fs))) (hca0 : ca = mCi z)
    (hM : Met l (mName z) (wsF z) (rmF z mc ms) (PcA B b D dA as h) (QcA B b D dA rv h') mc ms (fun q : Nat => B ≤ q)) (hal : mArgs z ≤ stk.length) (h8 : stk.length ≤ 8) (hca : stk.all (fun v => v.category == 1) = true) (hdr : stk.drop (mArgs z) = .ref a :: rest) (has : as = .ref a :: (stk.take (mArgs z)).reverse) (hcl : cells + mc ≤ R.cells) (hsl : slots + ms ≤ R.slots)
    (kk : ∀ (H1 : Heap) (locs1 : List Loc), va_S (fun q : Nat => B ≤ q) s.heap H1 locs1 → Rp B b D dA h' H1 → W p l ev R s m args below meth c H1 locs1 (cells + mc) (slots + ms) Q (F0 m (pc + 3) lsR ((rv.toList ++ rest).map (tv B b)))) : W p l ev R s m args below meth c H locs cells slots Q (F0 m pc lsR (stk.map (tv B b))) := by
  obtain ⟨hexec, hb, hml, hown, hws, hK, hini, hfr, hlo, ⟨hy, hK1, hK2, hK3, hK4⟩, hBs, hsc⟩ := id C
  have hok := List.all_eq_true.mp (hK1 y hy) _ he
  have hnd := hK2 y hy _ he
  unfold eok at hok
  rw [Bool.and_eq_true, decide_eq_true_eq] at hok
  obtain ⟨hd, hau⟩ := hok
  dsimp only at hau
  simp only [Bool.and_eq_true, decide_eq_true_eq] at hau
  obtain ⟨⟨⟨hau1, hau2⟩, hau3⟩, hau4⟩ := hau
  obtain ⟨k1, k2, k3, k4, k5, k6, k7, k8⟩ := callOk_spec hau1
  have wd : ∀ w ∈ ([linkW y idx (pc, .invokevirtual idx, z, r2), .code (mName z) (mCode z) (mMaxL z) (mRet z), .initialized (mName z).cls, .instanceMethod (mName z), .selects (mName z).cls (mName z) (mName z)] : List Cond), w ∈ lw_tbl ∧ w.before args s = true := by
    intro w hw
    have hw2 : w ∈ needs y (pc, .invokevirtual idx, z, r2) := hw
    exact ⟨(hnd w hw2).1, hws w (hnd w hw2).1 (hnd w hw2).2⟩
  have w1 := wd _ List.mem_cons_self
  have w2 := wd _ (List.mem_cons_of_mem _ List.mem_cons_self)
  have w3 := wd _ (List.mem_cons_of_mem _ (List.mem_cons_of_mem _ List.mem_cons_self))
  have w4 := wd _ (List.mem_cons_of_mem _ (List.mem_cons_of_mem _ (List.mem_cons_of_mem _ List.mem_cons_self)))
  have w5 := wd _ (List.mem_cons_of_mem _ (List.mem_cons_of_mem _ (List.mem_cons_of_mem _ (List.mem_cons_of_mem _ List.mem_cons_self))))
  have hst : stk.map (tv B b) = (((stk.take (mArgs z)).reverse).map (tv B b)).reverse ++ .ref (B + a) :: rest.map (tv B b) := by
    rw [List.map_reverse, List.reverse_reverse]
    show _ = _ ++ (Value.ref a :: rest).map (tv B b)
    rw [← hdr, ← List.map_append, List.take_append_drop]
  have hn : (((stk.take (mArgs z)).reverse).map (tv B b)).length = mArgs z := by rw [List.length_map, List.length_reverse, List.length_take]; omega
  have hrl : rest.length ≤ 8 := by
    have := congrArg List.length hdr
    rw [List.length_drop, List.length_cons] at this
    omega
  have hrs := cat_map (B := B) (b := b) rest hrl (by
    rw [List.all_eq_true] at hca ⊢
    exact fun v hv => hca v (List.mem_of_mem_drop (i := mArgs z) (by rw [hdr]; exact List.mem_cons_of_mem _ hv)))
  have hP : va_P D vwCl [(B + a, tE B b dA (.inr (ca, fs)))] H := by
    intro k q hq
    have hl := (List.getElem?_eq_some_iff.mp hq).1
    have : k = 0 := by simp at hl; omega
    subst this
    cases hq
    exact hR.2 a _ ha
  have hrec : ∃ cell : Cell, H[B + a]? = some cell ∧ cell.vm.isStatics = false ∧ s.vm.findClass (mName z).cls = some cell.cls := by
    rw [← hau3, ← hca0]
    have hc6 : ca < 6 := by rw [hca0]; exact hau2
    exact va_recv hK hP (vw_at hc6) (q0 := 0) (fs := fs.map (tv B b)) rfl
  have hpre := pc_holds (as := as) C hR
  have fin : va_Run p l ev R s m args below meth c H locs cells slots mc ms (F0 m pc lsR (stk.map (tv B b))) (rest.map (tv B b)) (QcA B b D dA rv h' (Value.ref (B + a) :: ((stk.take (mArgs z)).reverse).map (tv B b)).toArray) (fun q : Nat => B ≤ q) := by
    rw [has] at hpre hM
    by_cases hr2 : r2 = 1
    · refine va_runVN (Ts := GW) (index := idx) (host := RX4) (C := (mName z).cls) ⟨hexec, hb, hml, hown, C.gw⟩ hM ⟨⟨⟨rfl, rfl, Nat.le_trans k2 hfr, Nat.le_trans k3 hlo, ws_stay C w2.1, List.mem_cons_self⟩, w2.2, w3.2, ⟨k5, k6⟩, parse_n k4, ?_⟩, w4.2, w5.2⟩ ⟨pc_blind, hrec, hpre⟩ rfl hn hsz hst (lv_room hrs) hd ⟨hcl, hsl⟩
      have := w1.2
      unfold linkW at this
      rwa [if_pos hr2] at this
    · refine va_runV (Ts := GW) (index := idx) (C := (mName z).cls) ⟨hexec, hb, hml, hown, C.gw⟩ hM ⟨⟨rfl, rfl, Nat.le_trans k2 hfr, Nat.le_trans k3 hlo, ws_stay C w2.1, List.mem_cons_self, w2.2, w3.2, ⟨k5, k6⟩, parse_n k4, ?_⟩, w4.2, w5.2⟩ ⟨pc_blind, hrec, hpre⟩ rfl hn hsz hst (lv_room hrs) hd ⟨hcl, hsl⟩
      have := w1.2
      unfold linkW at this
      rwa [if_neg hr2] at this
  refine rp_call fin hS (fun H1 locs1 hS1 hR1 => ?_)
  have := kk H1 locs1 hS1 hR1
  rw [List.map_append] at this
  have e2 : (rv.map (tv B b)).toList = rv.toList.map (tv B b) := by cases rv <;> rfl
  rw [e2]
  exact this
theorem call_I (C : Cx B b D dA p R s m args meth c y sc) (hS : va_S (fun q : Nat => B ≤ q) s.heap H locs) (hR : Rp B b D dA h H) (hsz : lsR.size = mMaxL y) {idx : Nat} {r2 : Int} {pc : Nat} (he : (pc, .invokespecial idx, z, r2) ∈ kOf y) (hz : ¬ z = OBJ) {a : Nat}
    (hM : Met l (mName z) (wsF z) (rmF z mc ms) (PcA B b D dA as h) (QcA B b D dA rv h') mc ms (fun q : Nat => B ≤ q)) (hal : mArgs z ≤ stk.length) (h8 : stk.length ≤ 8) (hca : stk.all (fun v => v.category == 1) = true) (hdr : stk.drop (mArgs z) = .ref a :: rest) (has : as = .ref a :: (stk.take (mArgs z)).reverse) (hcl : cells + mc ≤ R.cells) (hsl : slots + ms ≤ R.slots)
    (kk : ∀ (H1 : Heap) (locs1 : List Loc), va_S (fun q : Nat => B ≤ q) s.heap H1 locs1 → Rp B b D dA h' H1 → W p l ev R s m args below meth c H1 locs1 (cells + mc) (slots + ms) Q (F0 m (pc + 3) lsR ((rv.toList ++ rest).map (tv B b)))) : W p l ev R s m args below meth c H locs cells slots Q (F0 m pc lsR (stk.map (tv B b))) := by
  obtain ⟨hexec, hb, hml, hown, hws, hK, hini, hfr, hlo, ⟨hy, hK1, hK2, hK3, hK4⟩, hBs, hsc⟩ := id C
  have hok := List.all_eq_true.mp (hK1 y hy) _ he
  have hnd := hK2 y hy _ he
  unfold eok at hok
  rw [Bool.and_eq_true, decide_eq_true_eq] at hok
  obtain ⟨hd, hau⟩ := hok
  dsimp only at hau
  rw [if_neg hz] at hau
  simp only [Bool.and_eq_true, decide_eq_true_eq] at hau
  obtain ⟨⟨⟨hau1, hau2⟩, hau3⟩, hau4⟩ := hau
  obtain ⟨k1, k2, k3, k4, k5, k6, k7, k8⟩ := callOk_spec hau1
  have wd : ∀ w ∈ ([linkW y idx (pc, .invokespecial idx, z, r2), .code (mName z) (mCode z) (mMaxL z) (mRet z), .initialized (mName z).cls, .instanceMethod (mName z)] : List Cond), w ∈ lw_tbl ∧ w.before args s = true := by
    intro w hw
    have hw2 : w ∈ needs y (pc, .invokespecial idx, z, r2) := by
      dsimp only [needs]
      rw [if_neg hz]
      exact hw
    exact ⟨(hnd w hw2).1, hws w (hnd w hw2).1 (hnd w hw2).2⟩
  have w1 := wd _ List.mem_cons_self
  have w2 := wd _ (List.mem_cons_of_mem _ List.mem_cons_self)
  have w3 := wd _ (List.mem_cons_of_mem _ (List.mem_cons_of_mem _ List.mem_cons_self))
  have w4 := wd _ (List.mem_cons_of_mem _ (List.mem_cons_of_mem _ (List.mem_cons_of_mem _ List.mem_cons_self)))
  have hst : stk.map (tv B b) = (((stk.take (mArgs z)).reverse).map (tv B b)).reverse ++ .ref (B + a) :: rest.map (tv B b) := by
    rw [List.map_reverse, List.reverse_reverse]
    show _ = _ ++ (Value.ref a :: rest).map (tv B b)
    rw [← hdr, ← List.map_append, List.take_append_drop]
  have hn : (((stk.take (mArgs z)).reverse).map (tv B b)).length = mArgs z := by rw [List.length_map, List.length_reverse, List.length_take]; omega
  have hrl : rest.length ≤ 8 := by
    have := congrArg List.length hdr
    rw [List.length_drop, List.length_cons] at this
    omega
  have hrs := cat_map (B := B) (b := b) rest hrl (by
    rw [List.all_eq_true] at hca ⊢
    exact fun v hv => hca v (List.mem_of_mem_drop (i := mArgs z) (by rw [hdr]; exact List.mem_cons_of_mem _ hv)))
  have hpre := pc_holds (as := as) C hR
  have hcd := ws_stay C w2.1
  have hcm : Cond.code (mName z) (mCode z) (mMaxL z) none ∈ wsF z := by rw [← hau3]; exact List.mem_cons_self
  have w2' := w2.2
  rw [hau3] at w2'
  have fin : va_Run p l ev R s m args below meth c H locs cells slots mc ms (F0 m pc lsR (stk.map (tv B b))) (rest.map (tv B b)) (QcA B b D dA rv h' (Value.ref (B + a) :: ((stk.take (mArgs z)).reverse).map (tv B b)).toArray) (fun q : Nat => B ≤ q) := by
    rw [has] at hpre hM
    by_cases hr2 : r2 = 1
    · refine va_runIN (Ts := GW) (index := idx) (host := RX4) ⟨hexec, hb, hml, hown, C.gw⟩ hM ⟨⟨⟨rfl, rfl, Nat.le_trans k2 hfr, Nat.le_trans k3 hlo, hcd, hcm⟩, w2', w3.2, ⟨k5, k6⟩, parse_n k4, ?_⟩, hau2, w4.2⟩ ⟨pc_blind, hpre⟩ rfl hn hsz hst (lv_room hrs) hd ⟨hcl, hsl⟩
      have := w1.2
      unfold linkW at this
      rwa [if_pos hr2] at this
    · refine va_runI (Ts := GW) (index := idx) ⟨hexec, hb, hml, hown, C.gw⟩ hM ⟨⟨rfl, rfl, Nat.le_trans k2 hfr, Nat.le_trans k3 hlo, hcd, hcm, w2', w3.2, ⟨k5, k6⟩, parse_n k4, ?_⟩, hau2, w4.2⟩ ⟨pc_blind, hpre⟩ rfl hn hsz hst (lv_room hrs) hd ⟨hcl, hsl⟩
      have := w1.2
      unfold linkW at this
      rwa [if_neg hr2] at this
  refine rp_call fin hS (fun H1 locs1 hS1 hR1 => ?_)
  have := kk H1 locs1 hS1 hR1
  rw [List.map_append] at this
  have e2 : (rv.map (tv B b)).toList = rv.toList.map (tv B b) := by cases rv <;> rfl
  rw [e2]
  exact this
end CALLS
end
section
/-! W follows a whole run. -/
section RUN
variable {B b : Nat} {D : va_G} {dA : Nat → ClassId} {p : Program} {l : Launch} {ev : Env} {R : Room} {s : State} {m : MethodId} {args : Array Value} {below : List Frame} {meth : Method} {c : Code} {Q : State → Prop} {y : Nat} {sc : Scr} {rv : Option Value} {hf : AHp} {M1 M2 : Nat}
theorem ret_spec {i : Instr} {stk : List Value} {pc : Nat} {v : Option Value} (hx : zRet y i stk = some v) (hd : ∀ i0, i = i0 → i0 = .ireturn ∨ i0 = .areturn ∨ i0 = .return_ → decode (mCode y) pc = .ok (i0, 1)) : RetAt y pc v ∧ stk = v.toList := by
  unfold zRet at hx
  split at hx
  · split at hx
    · rename_i hr
      cases hx
      exact ⟨Or.inr (Or.inl ⟨_, rfl, hr, hd _ rfl (Or.inl rfl)⟩), rfl⟩
    · cases hx
  · split at hx
    · rename_i hr
      cases hx
      cases hm : mRet y with
      | none => rw [hm] at hr; cases hr
      | some t =>
        rw [hm] at hr
        unfold isObj at hr
        split at hr
        · rename_i cn heq
          cases heq
          exact ⟨Or.inr (Or.inr ⟨_, _, rfl, hm, hd _ rfl (Or.inr (Or.inl rfl))⟩), rfl⟩
        · cases hr
    · cases hx
  · split at hx
    · rename_i hr
      cases hx
      exact ⟨Or.inl ⟨rfl, hr, hd _ rfl (Or.inr (Or.inr rfl))⟩, rfl⟩
    · cases hx
  · cases hx
theorem all_take {n : Nat} {stk : List Value} (h : stk.all (fun v => v.category == 1) = true) : ((stk.take n).reverse).all (fun v => v.category == 1) = true := by
  rw [List.all_eq_true] at h ⊢
  exact fun v hv => h v (List.mem_of_mem_take (List.mem_reverse.mp hv))
theorem walk : ∀ (n : Nat), (∀ k, k < n → CallOK k) → Cx B b D dA p R s m args meth c y sc → M1 ≤ R.cells → M2 ≤ R.slots →
    (∀ (pcr : Nat) (H1 : Heap) (locs1 : List Loc) (lsR1 : Array Slot), RetAt y pcr rv → va_S (fun q : Nat => B ≤ q) s.heap H1 locs1 → Rp B b D dA hf H1 → W p l ev R s m args below meth c H1 locs1 M1 M2 Q (F0 m pcr lsR1 (rv.toList.map (tv B b)))) →
    ∀ (pc : Nat) (ls stk : List Value) (h : AHp) (H : Heap) (locs : List Loc) (cells slots : Nat) (lsR : Array Slot), va_S (fun q : Nat => B ≤ q) s.heap H locs → Rp B b D dA h H → LV B b (mMaxL y) ls lsR → run n sc y pc ls stk h = some (rv, hf) → cells + (hf.length - h.length) = M1 → slots + (szH hf - szH h) = M2 → W p l ev R s m args below meth c H locs cells slots Q (F0 m pc lsR (stk.map (tv B b))) := by
  intro n
  induction n with
  | zero => intro _ _ _ _ _ pc ls stk h H locs cells slots lsR _ _ _ hx; exact absurd hx (by simp [run])
  | succ n ih =>
    intro hcall C h1 h2 hret pc ls stk h H locs cells slots lsR hS hR hl hx e1 e2
    have ih := ih (fun k hk => hcall k (Nat.lt_succ_of_lt hk)) C h1 h2 hret
    have hmono := run_mono _ hx
    unfold run at hx
    split at hx
    · cases hx
    · rename_i e he
      obtain ⟨hmem, rfl⟩ := fet_spec he
      clear he
      have he := hmem
      split at hx
      · obtain ⟨q, g1, g2⟩ := Option.bind_eq_some_iff.mp hx
        have m1 := ex1_mono g1
        have m2 := run_mono _ g2
        refine ex1_snd C hS hR hl he g1 (by omega) (by omega) (fun H1 locs1 lsR1 hS1 hR1 hl1 => ?_)
        exact ih q.1 q.2.1 q.2.2.1 q.2.2.2 H1 locs1 _ _ lsR1 hS1 hR1 hl1 g2 (by omega) (by omega)
      · obtain ⟨v, g1, g2⟩ := Option.map_eq_some_iff.mp hx
        cases g2
        obtain ⟨r1, r2⟩ := ret_spec (pc := e.1) g1 (by
          obtain ⟨-, -, -, -, -, -, -, -, -, ⟨hy, hK1, -⟩, -⟩ := C
          have hok := List.all_eq_true.mp (hK1 y hy) e he
          unfold eok at hok
          rw [Bool.and_eq_true, decide_eq_true_eq] at hok
          intro i0 hi0 hi
          have := hok.1
          obtain ⟨pc, i, r1, r2⟩ := e
          dsimp only at hi0
          subst hi0
          rcases hi with rfl | rfl | rfl <;> exact this)
        rw [Nat.sub_self, Nat.add_zero] at e1 e2
        subst e1
        subst e2
        rw [r2]
        exact hret e.1 H locs lsR r1 hS hR
      · obtain ⟨⟨as, rest⟩, g1, g2⟩ := Option.bind_eq_some_iff.mp hx
        obtain ⟨⟨rv1, h'⟩, g3, g4⟩ := Option.bind_eq_some_iff.mp g2
        dsimp only at g3 g4
        have m1 := run_mono _ g3
        have m2 := run_mono _ g4
        obtain ⟨z1, z2, z3, z4⟩ := zCall_spec g1
        have hKO : KOK := by
          obtain ⟨-, -, -, -, -, -, -, -, -, ⟨-, k⟩, -⟩ := C
          exact k
        have hy : y < NM := by
          obtain ⟨-, -, -, -, -, -, -, -, -, ⟨k, -⟩, -⟩ := C
          exact k
        have hok := List.all_eq_true.mp (hKO.1 y hy) e he
        unfold eok at hok
        rw [Bool.and_eq_true] at hok
        have hau := hok.2
        have fin : ∀ (H1 : Heap) (locs1 : List Loc), va_S (fun q : Nat => B ≤ q) s.heap H1 locs1 → Rp B b D dA h' H1 → W p l ev R s m args below meth c H1 locs1 (cells + (h'.length - h.length)) (slots + (szH h' - szH h)) Q (F0 m (e.1 + 3) lsR ((rv1.toList ++ rest).map (tv B b))) := fun H1 locs1 hS1 hR1 => ih (e.1 + 3) ls (rv1.toList ++ rest) h' H1 locs1 _ _ lsR hS1 hR1 hl g4 (by omega) (by omega)
        have hlt : (stk.take (mArgs e.2.2.1)).reverse.length = mArgs e.2.2.1 := by rw [List.length_reverse, List.length_take]; omega
        rename_i hk0 hk1
        obtain ⟨pc, i, z, r2⟩ := e
        dsimp only at hau hlt g3 z1 z4 hk0 hk1
        rcases z4 with ⟨idx, hi, has, hrest⟩ | ⟨idx, a, ca, fs, hi, hdr, hv, hca, has⟩ | ⟨idx, a, hi, hdr, has⟩
        · subst hi
          have hz : ¬ z = ACP := fun q => hk0 (by simp [kindI, q])
          dsimp only at hau
          rw [if_neg hz, Bool.and_eq_true] at hau
          obtain ⟨k1, k2, k3, k4, k5, k6, k7, k8⟩ := callOk_spec hau.1
          rw [hau.2, if_pos rfl] at k7
          have hM := hcall n (Nat.lt_succ_self n) l B b D dA z as h rv1 h' hKO k1 k8 (by rw [has, hlt]; omega) (by rw [has]; exact all_take z3) g3
          subst hrest
          exact call_S C hS hR hl.1 he hz hM z1 z2 z3 has (by omega) (by omega) fin
        · subst hi
          dsimp only at hau
          simp only [Bool.and_eq_true] at hau
          obtain ⟨k1, k2, k3, k4, k5, k6, k7, k8⟩ := callOk_spec hau.1.1.1
          rw [if_neg (by simpa using hau.2)] at k7
          have hM := hcall n (Nat.lt_succ_self n) l B b D dA z as h rv1 h' hKO k1 k8 (by rw [has, List.length_cons, hlt]; exact k7) (by rw [has, List.all_cons, all_take z3]; rfl) g3
          exact call_V C hS hR hl.1 he hv hca hM z1 z2 z3 hdr has (by omega) (by omega) fin
        · subst hi
          have hz : ¬ z = OBJ := fun q => hk0 (by simp [kindI, q])
          dsimp only at hau
          rw [if_neg hz] at hau
          simp only [Bool.and_eq_true] at hau
          obtain ⟨k1, k2, k3, k4, k5, k6, k7, k8⟩ := callOk_spec hau.1.1.1
          rw [if_neg (by simpa using hau.2)] at k7
          have hM := hcall n (Nat.lt_succ_self n) l B b D dA z as h rv1 h' hKO k1 k8 (by rw [has, List.length_cons, hlt]; exact k7) (by rw [has, List.all_cons, all_take z3]; rfl) g3
          exact call_I C hS hR hl.1 he hz hM z1 z2 z3 hdr has (by omega) (by omega) fin
end RUN
theorem callOK_step (n : Nat) (ih : ∀ k, k < n → CallOK k) : CallOK n := by
  intro l B b D dA z as h rv h' hKO hz hpl hlen hcat hrun
  refine Met.ofW (cc := mCode z) (maxL := mMaxL z) (ret := mRet z) hpl rfl ?_
  intro p e s m args below meth c s₁ Bd hml hv
  obtain ⟨rfl, hR, hK, hNW⟩ := hv
  have hts := atoms_spec (ws := wsF z) Bd.pre
  have hown : s.vm.findClass (mName z).cls = some m.cls := findClass_of_methodNamed Bd.named
  have hlocks := Bd.notSynchronized
  have hr := Bd.returns
  have hws : ∀ w ∈ lw_tbl, okW w = true → w.before (as.map (tv B b)).toArray s = true := by
    intro w hw ho
    unfold okW at ho
    rcases (Bool.or_eq_true _ _).mp ho with h1 | h1
    · exact hts w (List.mem_cons_of_mem _ (List.mem_filter.mpr ⟨hw, h1⟩))
    · exact nw_use h1 (hNW w (List.mem_filter.mpr ⟨hw, h1⟩))
  have hC : Cx B b D dA p (headSpec (wsF z) (rmF z (h'.length - h.length) (szH h' - szH h))).room s m (as.map (tv B b)).toArray meth c z none :=
    ⟨Bd.exec, Bd.bytes, hml, by rw [(hKO.2.2.2 z hz).1]; exact hown, hws, hK, fun q => by rw [(name_of_methodNamed Bd.named Bd.method).1]; exact (hKO.2.2.2 z hz).2 q, Nat.le_refl _, Nat.le_refl _, ⟨hz, hKO⟩, by rw [hR.1]; exact Nat.le_add_right _ _, fun L xs q => by cases q⟩
  rw [lg_entry_eq]
  have hx := Bd.exec
  have hb := Bd.bytes
  refine walk (rv := rv) (hf := h') (M1 := h'.length - h.length) (M2 := szH h' - szH h) n ih hC (Nat.le_refl _) (Nat.le_refl _) ?_ 0 (ent0 z as) [] h s.heap [] 0 0 _ va_S.rf hR (LV.entry B b hlen hcat) hrun (Nat.zero_add _) (Nat.zero_add _)
  intro pcr H1 locs1 lsR1 hrt hS1 hR1
  rcases hrt with ⟨rfl, hm, hd⟩ | ⟨v, rfl, hm, hd⟩ | ⟨a, cn, rfl, hm, hd⟩
  · exact W.vret hx hb (hr.trans hm) (fun t ht hW => ⟨⟨rfl, by rw [ht]; exact hR1⟩, hS1.F ht⟩) hS1.2.2 hd
  · rcases hm with hm | ⟨hm, hv⟩
    · exact W.iret hx hb (hr.trans hm) (fun t ht hW => ⟨⟨rfl, by rw [ht]; exact hR1⟩, hS1.F ht⟩) hS1.2.2 hd
    · exact W.zret hx hb (hr.trans hm) (by rcases hv with rfl | rfl <;> rfl) (fun t ht hW => ⟨⟨rfl, by rw [ht]; exact hR1⟩, hS1.F ht⟩) hS1.2.2 hd
  · exact W.aret (v := .ref (B + a)) hx hb (hr.trans hm) (Or.inl ⟨cn, rfl⟩) (Or.inr ⟨_, rfl⟩) (fun t ht hW => ⟨⟨rfl, by rw [ht]; exact hR1⟩, hS1.F ht⟩) hS1.2.2 hd
theorem callOK_all (n : Nat) : CallOK n := by
  induction n using Nat.strongRecOn with
  | _ n ih => exact callOK_step n ih
end
section
/-! Runs as a predicate: Ev (from a point), Call (a method); one row for each kind of instruction. -/
def Ev (sc : Scr) (y pc : Nat) (ls stk : List Value) (h : AHp) (post : Option Value → AHp → Prop) : Prop := ∃ (n : Nat) (rv : Option Value) (h' : AHp), run n sc y pc ls stk h = some (rv, h') ∧ post rv h'
def Call (z : Nat) (as : List Value) (h : AHp) (post : Option Value → AHp → Prop) : Prop := Ev none z 0 (ent0 z as) [] h post
def oB {α : Type} (o : Option α) (K : α → Prop) : Prop := ∃ v, o = some v ∧ K v
theorem oB_some {α : Type} (v : α) (K : α → Prop) : oB (some v) K = K v := by
  apply propext
  exact ⟨fun ⟨w, h1, h2⟩ => by cases h1; exact h2, fun h => ⟨v, rfl, h⟩⟩
theorem oB_none {α : Type} (K : α → Prop) : oB none K = False := by
  apply propext
  exact ⟨fun ⟨w, h1, h2⟩ => (by cases h1), fun h => False.elim h⟩
theorem oB_bind {α : Type} {n : Nat} {β : Type} (o : Option α) (f : α → Option β) (P : β → Prop) : (∃ r, o.bind f = some r ∧ P r) ↔ oB o (fun v => ∃ r, f v = some r ∧ P r) := by
  constructor
  · rintro ⟨r, h1, h2⟩
    obtain ⟨v, g1, g2⟩ := Option.bind_eq_some_iff.mp h1
    exact ⟨v, g1, r, g2, h2⟩
  · rintro ⟨v, g1, r, g2, h2⟩
    exact ⟨r, Option.bind_eq_some_iff.mpr ⟨v, g1, g2⟩, h2⟩
theorem run_s (n : Nat) (sc : Scr) (y pc : Nat) (ls stk : List Value) (h : AHp) : run (n + 1) sc y pc ls stk h = match fet y pc with
    | none => none
    | some e =>
      match kindI e.2.1 e.2.2.1 with
      | 0 => (ex1 sc e ls stk h).bind (fun q => run n sc y q.1 q.2.1 q.2.2.1 q.2.2.2)
      | 1 => (zRet y e.2.1 stk).map (fun v => (v, h))
      | _ => (zCall e.2.1 e.2.2.1 stk h).bind (fun q => (run n none e.2.2.1 0 (ent0 e.2.2.1 q.1) [] h).bind (fun r => run n sc y (e.1 + 3) ls (r.1.toList ++ q.2) r.2)) := rfl
theorem run_more : ∀ (n k : Nat) {sc : Scr} {y pc : Nat} {ls stk : List Value} {h : AHp} {r : Option Value × AHp}, run n sc y pc ls stk h = some r → run (n + k) sc y pc ls stk h = some r := by
  intro n
  induction n with
  | zero => intro k sc y pc ls stk h r hx; exact absurd hx (by simp [run])
  | succ n ih =>
    intro k sc y pc ls stk h r hx
    rw [Nat.add_right_comm, run_s]
    rw [run_s] at hx
    cases hfe : fet y pc with
    | none => rw [hfe] at hx; cases hx
    | some e =>
      rw [hfe] at hx
      dsimp only at hx ⊢
      cases hk : kindI e.2.1 e.2.2.1 with
      | zero =>
        rw [hk] at hx
        obtain ⟨q, g1, g2⟩ := Option.bind_eq_some_iff.mp hx
        exact Option.bind_eq_some_iff.mpr ⟨q, g1, ih k g2⟩
      | succ k1 =>
        rw [hk] at hx
        cases k1 with
        | zero => exact hx
        | succ k2 =>
          obtain ⟨q, g1, g2⟩ := Option.bind_eq_some_iff.mp hx
          obtain ⟨r1, g3, g4⟩ := Option.bind_eq_some_iff.mp g2
          exact Option.bind_eq_some_iff.mpr ⟨q, g1, Option.bind_eq_some_iff.mpr ⟨r1, ih k g3, ih k g4⟩⟩
theorem run_det {n k : Nat} {sc : Scr} {y pc : Nat} {ls stk : List Value} {h : AHp} {r r' : Option Value × AHp} (h1 : run n sc y pc ls stk h = some r) (h2 : run k sc y pc ls stk h = some r') : r = r' := by
  have a := run_more n k h1
  have c := run_more k n h2
  rw [Nat.add_comm] at c
  exact Option.some.inj (a.symm.trans c)
section EVR
variable {sc : Scr} {y pc : Nat} {ls stk : List Value} {h : AHp} {post post' : Option Value → AHp → Prop} {e : Ent}
theorem Ev.mono (hx : Ev sc y pc ls stk h post) (hp : ∀ rv h', post rv h' → post' rv h') : Ev sc y pc ls stk h post' := by
  obtain ⟨n, rv, h', h1, h2⟩ := hx
  exact ⟨n, rv, h', h1, hp _ _ h2⟩
theorem Call.mono {z : Nat} {as : List Value} (hx : Call z as h post) (hp : ∀ rv h', post rv h' → post' rv h') : Call z as h post' := Ev.mono hx hp
theorem Ev.both (h1 : Ev sc y pc ls stk h post) (h2 : Ev sc y pc ls stk h post') : Ev sc y pc ls stk h (fun rv h' => post rv h' ∧ post' rv h') := by
  obtain ⟨n, rv, h', a1, a2⟩ := h1
  obtain ⟨k, rv2, h2', b1, b2⟩ := h2
  cases run_det a1 b1
  exact ⟨n, rv, h', a1, a2, b2⟩
/-- a call whose end is known -/
theorem call_eq {z : Nat} {as : List Value} {rv : Option Value} {h' : AHp} (hx : Call z as h (fun r g => r = rv ∧ g = h')) : ∀ post, Call z as h post = post rv h' := by
  intro post
  obtain ⟨n, r, g, a1, rfl, rfl⟩ := hx
  apply propext
  constructor
  · rintro ⟨k, r2, g2, b1, b2⟩
    cases run_det a1 b1
    exact b2
  · exact fun hp => ⟨n, r, g, a1, hp⟩
theorem e_x (hf : fet y pc = some e) (hk : kindI e.2.1 e.2.2.1 = 0) : Ev sc y pc ls stk h post = oB (ex1 sc e ls stk h) (fun q => Ev sc y q.1 q.2.1 q.2.2.1 q.2.2.2 post) := by
  apply propext
  constructor
  · rintro ⟨n, rv, h', h1, h2⟩
    cases n with
    | zero => exact absurd h1 (by simp [run])
    | succ n =>
      rw [run_s, hf] at h1
      dsimp only at h1
      rw [hk] at h1
      obtain ⟨q, g1, g2⟩ := Option.bind_eq_some_iff.mp h1
      exact ⟨q, g1, n, rv, h', g2, h2⟩
  · rintro ⟨q, g1, n, rv, h', g2, h2⟩
    refine ⟨n + 1, rv, h', ?_, h2⟩
    rw [run_s, hf]
    dsimp only
    rw [hk]
    exact Option.bind_eq_some_iff.mpr ⟨q, g1, g2⟩
theorem e_1 {q : Cfg} (hf : fet y pc = some e) (hk : kindI e.2.1 e.2.2.1 = 0) (hx : ex1 sc e ls stk h = some q) : Ev sc y pc ls stk h post = Ev sc y q.1 q.2.1 q.2.2.1 q.2.2.2 post := by
  rw [e_x hf hk, hx, oB_some]
theorem e_r {v : Option Value} (hf : fet y pc = some e) (hk : kindI e.2.1 e.2.2.1 = 1) (hx : zRet y e.2.1 stk = some v) : Ev sc y pc ls stk h post = post v h := by
  apply propext
  constructor
  · rintro ⟨n, rv, h', h1, h2⟩
    cases n with
    | zero => exact absurd h1 (by simp [run])
    | succ n =>
      rw [run_s, hf] at h1
      dsimp only at h1
      rw [hk, hx] at h1
      cases h1
      exact h2
  · intro hp
    refine ⟨1, v, h, ?_, hp⟩
    rw [run_s, hf]
    dsimp only
    rw [hk, hx]
    rfl
theorem e_c {as rest : List Value} (hf : fet y pc = some e) (hk : kindI e.2.1 e.2.2.1 = 2) (hx : zCall e.2.1 e.2.2.1 stk h = some (as, rest)) : Ev sc y pc ls stk h post = Call e.2.2.1 as h (fun rv h' => Ev sc y (e.1 + 3) ls (rv.toList ++ rest) h' post) := by
  apply propext
  constructor
  · rintro ⟨n, rv, h', h1, h2⟩
    cases n with
    | zero => exact absurd h1 (by simp [run])
    | succ n =>
      rw [run_s, hf] at h1
      dsimp only at h1
      rw [hk, hx] at h1
      obtain ⟨q, g1, g2⟩ := Option.bind_eq_some_iff.mp h1
      cases g1
      obtain ⟨r, g3, g4⟩ := Option.bind_eq_some_iff.mp g2
      exact ⟨n, r.1, r.2, g3, n, rv, h', g4, h2⟩
  · rintro ⟨n, r1, r2, g3, k, rv, h', g4, h2⟩
    refine ⟨n + k + 1, rv, h', ?_, h2⟩
    rw [run_s, hf]
    dsimp only
    rw [hk, hx]
    refine Option.bind_eq_some_iff.mpr ⟨_, rfl, Option.bind_eq_some_iff.mpr ⟨(r1, r2), run_more n k g3, ?_⟩⟩
    have := run_more k n g4
    rwa [Nat.add_comm] at this
end EVR
def fldv (h : AHp) (a c k : Nat) : Option Value := match h[a]? with
  | some (.inr (c', fs)) => if c' = c then fs[k]? else none
  | _ => none
def stf (h : AHp) (a c k : Nat) (v : Value) : Option AHp := match h[a]? with
  | some (.inr (c', fs)) => if c' = c ∧ k < fs.length ∧ vOk (tyAt c' k) v = true then some (h.set a (.inr (c', fs.set k v))) else none
  | _ => none
def ldi (h : AHp) (a : Nat) (j : Int32) : Option Int32 := match h[a]? with
  | some (.inl (0, n, .inl f)) => if j < 0 ∨ n ≤ j.toNatClampNeg then none else some (f j.toNatClampNeg)
  | _ => none
def sti (h : AHp) (a : Nat) (j x : Int32) : Option AHp := match h[a]? with
  | some (.inl (0, n, .inl f)) => if j < 0 ∨ n ≤ j.toNatClampNeg then none else some (h.set a (.inl (0, n, .inl (upd f j.toNatClampNeg x))))
  | _ => none
def ldq (h : AHp) (a : Nat) (j : Int32) : Option Value := match h[a]? with
  | some (.inl (k, n, .inr f)) => if k = 0 ∨ 4 ≤ k ∨ j < 0 ∨ n ≤ j.toNatClampNeg then none else some (arf (f j.toNatClampNeg))
  | _ => none
def stq (h : AHp) (a : Nat) (j : Int32) (v : Nat) : Option AHp := match h[a]?, h[v]? with
  | some (.inl (k, n, .inr f)), some (.inr (c, _)) => if k = 0 ∨ 4 ≤ k ∨ ¬ c = kindC k ∨ j < 0 ∨ n ≤ j.toNatClampNeg then none else some (h.set a (.inl (k, n, .inr (va_up f j.toNatClampNeg (some v)))))
  | _, _ => none
def acp (h : AHp) (a0 : Nat) (sp : Int32) (a : Nat) (dp n : Int32) : Option AHp := match h[a0]?, h[a]? with
  | some (.inl (0, n0, .inl f)), some (.inl (0, n1, .inl g)) => if sp < 0 ∨ dp < 0 ∨ n < 0 ∨ n0 < sp.toNatClampNeg + n.toNatClampNeg ∨ n1 < dp.toNatClampNeg + n.toNatClampNeg then none else some (h.set a (.inl (0, n1, .inl (va_cpy f g sp.toNatClampNeg dp.toNatClampNeg n.toNatClampNeg))))
  | _, _ => none
def isO (h : AHp) (a c : Nat) : Prop := ∃ fs, h[a]? = some (.inr (c, fs))
section EVK
variable {sc : Scr} {y pc : Nat} {ls stk : List Value} {h : AHp} {post : Option Value → AHp → Prop}
theorem e_get {i r1 : Nat} {r2 : Int} {a : Nat} (hf : fet y pc = some (pc, .getfield i, r1, r2)) : Ev sc y pc ls (.ref a :: stk) h post = oB (fldv h a r1 r2.toNat) (fun v => Ev sc y (pc + 3) ls (v :: stk) h post) := by
  rw [e_x hf rfl]
  dsimp only [ex1, fldv]
  generalize h[a]? = o
  rcases o with _ | (⟨k, n, f⟩ | ⟨c, fs⟩)
  · rw [oB_none, oB_none]
  · (try dsimp only); rw [oB_none, oB_none]
  · dsimp only
    by_cases hc : c = r1
    · rw [if_pos hc, if_pos hc]
      cases hk : fs[r2.toNat]? with
      | none => rw [oB_none, oB_none]
      | some v => rw [oB_some, oB_some]
    · rw [if_neg hc, if_neg hc, oB_none, oB_none]
theorem e_put {i r1 : Nat} {r2 : Int} {a : Nat} {v : Value} (hf : fet y pc = some (pc, .putfield i, r1, r2)) : Ev sc y pc ls (v :: .ref a :: stk) h post = oB (stf h a r1 r2.toNat v) (fun h' => Ev sc y (pc + 3) ls stk h' post) := by
  rw [e_x hf rfl]
  dsimp only [ex1, stf]
  generalize h[a]? = o
  rcases o with _ | (⟨k, n, f⟩ | ⟨c, fs⟩)
  · rw [oB_none, oB_none]
  · (try dsimp only); rw [oB_none, oB_none]
  · dsimp only
    split
    · rw [oB_some, oB_some]
    · rw [oB_none, oB_none]
theorem e_ldi {r1 : Nat} {r2 : Int} {a : Nat} {j : Int32} (hf : fet y pc = some (pc, .iaload, r1, r2)) : Ev sc y pc ls (.int j :: .ref a :: stk) h post = oB (ldi h a j) (fun x => Ev sc y (pc + 1) ls (.int x :: stk) h post) := by
  rw [e_x hf rfl]
  dsimp only [ex1, ldi]
  generalize h[a]? = o
  rcases o with _ | (⟨k, n, f | f⟩ | ⟨c, fs⟩)
  · rw [oB_none, oB_none]
  · cases k with
    | zero =>
      show oB (if j < 0 ∨ n ≤ j.toNatClampNeg then none else some _) _ = oB (if j < 0 ∨ n ≤ j.toNatClampNeg then none else some _) _
      split
      · rw [oB_none, oB_none]
      · rw [oB_some, oB_some]
    | succ k => show oB none _ = oB none _; rw [oB_none, oB_none]
  · cases k <;> (show oB none _ = oB none _; rw [oB_none, oB_none])
  · (try dsimp only); rw [oB_none, oB_none]
theorem e_sti {r1 : Nat} {r2 : Int} {a : Nat} {j x : Int32} (hf : fet y pc = some (pc, .iastore, r1, r2)) : Ev sc y pc ls (.int x :: .int j :: .ref a :: stk) h post = oB (sti h a j x) (fun h' => Ev sc y (pc + 1) ls stk h' post) := by
  rw [e_x hf rfl]
  dsimp only [ex1, sti]
  generalize h[a]? = o
  rcases o with _ | (⟨k, n, f | f⟩ | ⟨c, fs⟩)
  · rw [oB_none, oB_none]
  · cases k with
    | zero =>
      show oB (if j < 0 ∨ n ≤ j.toNatClampNeg then none else some _) _ = oB (if j < 0 ∨ n ≤ j.toNatClampNeg then none else some _) _
      split
      · rw [oB_none, oB_none]
      · rw [oB_some, oB_some]
    | succ k => show oB none _ = oB none _; rw [oB_none, oB_none]
  · cases k <;> (show oB none _ = oB none _; rw [oB_none, oB_none])
  · (try dsimp only); rw [oB_none, oB_none]
theorem e_ldq {r1 : Nat} {r2 : Int} {a : Nat} {j : Int32} (hf : fet y pc = some (pc, .aaload, r1, r2)) : Ev sc y pc ls (.int j :: .ref a :: stk) h post = oB (ldq h a j) (fun v => Ev sc y (pc + 1) ls (v :: stk) h post) := by
  rw [e_x hf rfl]
  dsimp only [ex1, ldq]
  generalize h[a]? = o
  rcases o with _ | (⟨k, n, f | f⟩ | ⟨c, fs⟩)
  · rw [oB_none, oB_none]
  · (try dsimp only); rw [oB_none, oB_none]
  · dsimp only
    split
    · rw [oB_none, oB_none]
    · rw [oB_some, oB_some]
  · (try dsimp only); rw [oB_none, oB_none]
theorem e_stq {r1 : Nat} {r2 : Int} {a v : Nat} {j : Int32} (hf : fet y pc = some (pc, .aastore, r1, r2)) : Ev sc y pc ls (.ref v :: .int j :: .ref a :: stk) h post = oB (stq h a j v) (fun h' => Ev sc y (pc + 1) ls stk h' post) := by
  rw [e_x hf rfl]
  dsimp only [ex1, stq]
  generalize h[a]? = o
  generalize h[v]? = o2
  rcases o with _ | (⟨k, n, f | f⟩ | ⟨c, fs⟩)
  · rw [oB_none, oB_none]
  · rcases o2 with _ | (⟨k2, n2, f2⟩ | ⟨c2, fs2⟩) <;> ((try dsimp only); rw [oB_none, oB_none])
  · rcases o2 with _ | (⟨k2, n2, f2⟩ | ⟨c2, fs2⟩)
    · rw [oB_none, oB_none]
    · (try dsimp only); rw [oB_none, oB_none]
    · dsimp only
      split
      · rw [oB_none, oB_none]
      · rw [oB_some, oB_some]
  · (try dsimp only); rw [oB_none, oB_none]
theorem e_acp {i : Nat} {r2 : Int} {a a0 : Nat} {sp dp n : Int32} (hf : fet y pc = some (pc, .invokestatic i, 1000, r2)) (hs : stk.length ≤ 8 ∧ stk.all (fun v => v.category == 1) = true) : Ev sc y pc ls (.int n :: .int dp :: .ref a :: .int sp :: .ref a0 :: stk) h post = oB (acp h a0 sp a dp n) (fun h' => Ev sc y (pc + 3) ls stk h' post) := by
  rw [e_x hf rfl]
  dsimp only [ex1, acp]
  rw [if_pos (show 1000 = ACP from rfl)]
  have key : ∀ (n0 : Nat) (f : Nat → Int32) (n1 : Nat) (g : Nat → Int32), oB (if sp < 0 ∨ dp < 0 ∨ n < 0 ∨ n0 < sp.toNatClampNeg + n.toNatClampNeg ∨ n1 < dp.toNatClampNeg + n.toNatClampNeg ∨ ¬ (stk.length ≤ 8 ∧ stk.all (fun v => v.category == 1) = true) then none
        else some (pc + 3, ls, stk, h.set a (.inl (0, n1, .inl (va_cpy f g sp.toNatClampNeg dp.toNatClampNeg n.toNatClampNeg))))) (fun q : Cfg => Ev sc y q.1 q.2.1 q.2.2.1 q.2.2.2 post) = oB (if sp < 0 ∨ dp < 0 ∨ n < 0 ∨ n0 < sp.toNatClampNeg + n.toNatClampNeg ∨ n1 < dp.toNatClampNeg + n.toNatClampNeg then none else some (h.set a (.inl (0, n1, .inl (va_cpy f g sp.toNatClampNeg dp.toNatClampNeg n.toNatClampNeg))))) (fun h' => Ev sc y (pc + 3) ls stk h' post) := by
    intro n0 f n1 g
    by_cases hq : sp < 0 ∨ dp < 0 ∨ n < 0 ∨ n0 < sp.toNatClampNeg + n.toNatClampNeg ∨ n1 < dp.toNatClampNeg + n.toNatClampNeg
    · rw [if_pos hq, if_pos, oB_none, oB_none]
      rcases hq with q | q | q | q | q
      · exact Or.inl q
      · exact Or.inr (Or.inl q)
      · exact Or.inr (Or.inr (Or.inl q))
      · exact Or.inr (Or.inr (Or.inr (Or.inl q)))
      · exact Or.inr (Or.inr (Or.inr (Or.inr (Or.inl q))))
    · rw [if_neg hq, if_neg, oB_some, oB_some]
      rintro (q | q | q | q | q | q)
      · exact hq (Or.inl q)
      · exact hq (Or.inr (Or.inl q))
      · exact hq (Or.inr (Or.inr (Or.inl q)))
      · exact hq (Or.inr (Or.inr (Or.inr (Or.inl q))))
      · exact hq (Or.inr (Or.inr (Or.inr (Or.inr q))))
      · exact q hs
  generalize h[a0]? = o
  generalize h[a]? = o2
  rcases o with _ | (⟨k, n, f | f⟩ | ⟨c, fs⟩)
  · show oB none _ = oB none _; rw [oB_none, oB_none]
  · cases k with
    | zero =>
      rcases o2 with _ | (⟨k2, n2, f2 | f2⟩ | ⟨c2, fs2⟩)
      · show oB none _ = oB none _; rw [oB_none, oB_none]
      · cases k2 with
        | zero => exact key _ _ _ _
        | succ k2 => show oB none _ = oB none _; rw [oB_none, oB_none]
      · cases k2 <;> (show oB none _ = oB none _; rw [oB_none, oB_none])
      · show oB none _ = oB none _; rw [oB_none, oB_none]
    | succ k => show oB none _ = oB none _; rw [oB_none, oB_none]
  · cases k <;> (show oB none _ = oB none _; rw [oB_none, oB_none])
  · show oB none _ = oB none _; rw [oB_none, oB_none]
theorem e_if {c : ClassFile.Cond} {o : Int} {r1 : Nat} {r2 : Int} {x : Int32} (hf : fet y pc = some (pc, .ifCond c o, r1, r2)) : Ev sc y pc ls (.int x :: stk) h post = if cB c x 0 = true then Ev sc y (pcT pc o) ls stk h post else Ev sc y (pc + 3) ls stk h post := by
  rw [e_x hf rfl]
  dsimp only [ex1]
  rw [oB_some]
  dsimp only
  split <;> rfl
theorem e_icmp {c : ClassFile.Cond} {o : Int} {r1 : Nat} {r2 : Int} {x z : Int32} (hf : fet y pc = some (pc, .if_icmp c o, r1, r2)) : Ev sc y pc ls (.int z :: .int x :: stk) h post = if cB c x z = true then Ev sc y (pcT pc o) ls stk h post else Ev sc y (pc + 3) ls stk h post := by
  rw [e_x hf rfl]
  dsimp only [ex1]
  rw [oB_some]
  dsimp only
  split <;> rfl
theorem cb_eq (x z : Int32) : (cB .eq x z = true) = (x = z) := by simp [cB]
theorem cb_ne (x z : Int32) : (cB .ne x z = true) = (¬ x = z) := by simp [cB]
theorem cb_lt (x z : Int32) : (cB .lt x z = true) = (x < z) := by simp [cB]
theorem cb_ge (x z : Int32) : (cB .ge x z = true) = (z ≤ x) := by simp [cB]
theorem cb_gt (x z : Int32) : (cB .gt x z = true) = (z < x) := by simp [cB]
theorem cb_le (x z : Int32) : (cB .le x z = true) = (x ≤ z) := by simp [cB]
theorem e_retb {r1 : Nat} {r2 : Int} {x : Int32} (hf : fet y pc = some (pc, .ireturn, r1, r2)) (hb : mRet y = some .boolean) : Ev sc y pc ls [.int x] h post = ((x = 0 ∨ x = 1) ∧ post (some (.int x)) h) := by
  by_cases hx : x = 0 ∨ x = 1
  · rw [e_r (e := (pc, .ireturn, r1, r2)) (v := some (.int x)) hf rfl (by simp [zRet, hb, hx])]
    simp [hx]
  · simp only [hx, false_and]
    apply propext
    constructor
    · rintro ⟨n, rv, h', h1, h2⟩
      cases n with
      | zero => exact absurd h1 (by simp [run])
      | succ n =>
        rw [run_s, hf] at h1
        simp [kindI, zRet, hb, hx] at h1
    · exact fun q => q.elim
/-- virtual: the receiver's class is the callee's -/
theorem e_v {i z a : Nat} {r2 : Int} {as rest : List Value} (hf : fet y pc = some (pc, .invokevirtual i, z, r2)) (hs : stk = as.reverse ++ .ref a :: rest) (hn : as.length = mArgs z) (h8 : stk.length ≤ 8) (hc : stk.all (fun v => v.category == 1) = true) (ho : isO h a (mCi z)) : Ev sc y pc ls stk h post = Call z (.ref a :: as) h (fun rv h' => Ev sc y (pc + 3) ls (rv.toList ++ rest) h' post) := by
  obtain ⟨fs, hv⟩ := ho
  refine e_c (e := (pc, .invokevirtual i, z, r2)) hf rfl ?_
  have e1 : stk.take (mArgs z) = as.reverse := by rw [hs, List.take_left' (by rw [List.length_reverse, hn])]
  have e2 : stk.drop (mArgs z) = .ref a :: rest := by rw [hs, List.drop_left' (by rw [List.length_reverse, hn])]
  have e3 : mArgs z ≤ stk.length := by rw [hs, List.length_append, List.length_reverse, hn]; omega
  unfold zCall
  rw [if_neg (fun q => q ⟨e3, h8, hc⟩)]
  dsimp only
  rw [e2, e1]
  dsimp only
  rw [hv]
  dsimp only
  rw [if_pos rfl, List.reverse_reverse]
theorem e_i {i z a : Nat} {r2 : Int} {as rest : List Value} (hf : fet y pc = some (pc, .invokespecial i, z, r2)) (hz : kindI (.invokespecial i) z = 2) (hs : stk = as.reverse ++ .ref a :: rest) (hn : as.length = mArgs z) (h8 : stk.length ≤ 8) (hc : stk.all (fun v => v.category == 1) = true) : Ev sc y pc ls stk h post = Call z (.ref a :: as) h (fun rv h' => Ev sc y (pc + 3) ls (rv.toList ++ rest) h' post) := by
  refine e_c (e := (pc, .invokespecial i, z, r2)) hf hz ?_
  have e1 : stk.take (mArgs z) = as.reverse := by rw [hs, List.take_left' (by rw [List.length_reverse, hn])]
  have e2 : stk.drop (mArgs z) = .ref a :: rest := by rw [hs, List.drop_left' (by rw [List.length_reverse, hn])]
  have e3 : mArgs z ≤ stk.length := by rw [hs, List.length_append, List.length_reverse, hn]; omega
  unfold zCall
  rw [if_neg (fun q => q ⟨e3, h8, hc⟩)]
  dsimp only
  rw [e2, e1]
  dsimp only
  rw [List.reverse_reverse]
theorem e_s {i z : Nat} {r2 : Int} {as rest : List Value} (hf : fet y pc = some (pc, .invokestatic i, z, r2)) (hz : kindI (.invokestatic i) z = 2) (hs : stk = as.reverse ++ rest) (hn : as.length = mArgs z) (h8 : stk.length ≤ 8) (hc : stk.all (fun v => v.category == 1) = true) : Ev sc y pc ls stk h post = Call z as h (fun rv h' => Ev sc y (pc + 3) ls (rv.toList ++ rest) h' post) := by
  refine e_c (e := (pc, .invokestatic i, z, r2)) hf hz ?_
  have e1 : stk.take (mArgs z) = as.reverse := by rw [hs, List.take_left' (by rw [List.length_reverse, hn])]
  have e2 : stk.drop (mArgs z) = rest := by rw [hs, List.drop_left' (by rw [List.length_reverse, hn])]
  have e3 : mArgs z ≤ stk.length := by rw [hs, List.length_append, List.length_reverse, hn]; omega
  unfold zCall
  rw [if_neg (fun q => q ⟨e3, h8, hc⟩)]
  dsimp only
  rw [e2, e1, List.reverse_reverse]
end EVK
end
