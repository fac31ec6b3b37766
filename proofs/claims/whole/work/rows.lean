section
/-- a private method of a class that the tables say can be made, by its rows of tables_1 -/
def lw_okq (q : MethodName × Nat) : Prop := (q.1.cls ≠ "java/lang/invoke/MethodHandle" ∧ q.1.cls ≠ "java/lang/invoke/VarHandle") ∧ Cond.instantiable q.1.cls q.2 ∈ tables_1 ∧ Cond.privateMethod q.1 ∈ tables_1 ∧ Cond.instanceMethod q.1 ∈ tables_1
theorem lw_p0 : lw_okq (⟨"PartedSums", "freshTrial", "()LPartedSums$State;"⟩, 6) := ⟨⟨by decide +kernel, by decide +kernel⟩, List.mem_of_getElem? (i := 10) (by decide +kernel), List.mem_of_getElem? (i := 197) (by decide +kernel), List.mem_of_getElem? (i := 198) (by decide +kernel)⟩
theorem lw_p1 : lw_okq (⟨"PartedSums", "settle", "(I)I"⟩, 6) := ⟨⟨by decide +kernel, by decide +kernel⟩, List.mem_of_getElem? (i := 10) (by decide +kernel), List.mem_of_getElem? (i := 235) (by decide +kernel), List.mem_of_getElem? (i := 236) (by decide +kernel)⟩
theorem lw_p2 : lw_okq (⟨"PartedSums$State", "insertLetter", "(I)LPartedSums$Letter;"⟩, 11) := ⟨⟨by decide +kernel, by decide +kernel⟩, List.mem_of_getElem? (i := 18) (by decide +kernel), List.mem_of_getElem? (i := 373) (by decide +kernel), List.mem_of_getElem? (i := 374) (by decide +kernel)⟩
theorem lw_p3 : lw_okq (⟨"PartedSums$State", "receive", "(LPartedSums$Letter;)V"⟩, 11) := ⟨⟨by decide +kernel, by decide +kernel⟩, List.mem_of_getElem? (i := 18) (by decide +kernel), List.mem_of_getElem? (i := 385) (by decide +kernel), List.mem_of_getElem? (i := 386) (by decide +kernel)⟩
theorem lw_p4 : lw_okq (⟨"PartedSums$State", "removeLetters", "(I)V"⟩, 11) := ⟨⟨by decide +kernel, by decide +kernel⟩, List.mem_of_getElem? (i := 18) (by decide +kernel), List.mem_of_getElem? (i := 389) (by decide +kernel), List.mem_of_getElem? (i := 390) (by decide +kernel)⟩
theorem lw_p5 : lw_okq (⟨"PartedSums", "tryMerging", "(II)I"⟩, 6) := ⟨⟨by decide +kernel, by decide +kernel⟩, List.mem_of_getElem? (i := 10) (by decide +kernel), List.mem_of_getElem? (i := 448) (by decide +kernel), List.mem_of_getElem? (i := 449) (by decide +kernel)⟩
theorem lw_p6 : lw_okq (⟨"PartedSums$State", "viewBehind", "(I)I"⟩, 11) := ⟨⟨by decide +kernel, by decide +kernel⟩, List.mem_of_getElem? (i := 18) (by decide +kernel), List.mem_of_getElem? (i := 479) (by decide +kernel), List.mem_of_getElem? (i := 480) (by decide +kernel)⟩
theorem lw_p7 : lw_okq (⟨"PartedSums", "partsLackedOfAll", "(I)I"⟩, 6) := ⟨⟨by decide +kernel, by decide +kernel⟩, List.mem_of_getElem? (i := 10) (by decide +kernel), List.mem_of_getElem? (i := 492) (by decide +kernel), List.mem_of_getElem? (i := 493) (by decide +kernel)⟩
theorem lw_p8 : lw_okq (⟨"PartedSums$Script", "readOrder", "(I)Z"⟩, 9) := ⟨⟨by decide +kernel, by decide +kernel⟩, List.mem_of_getElem? (i := 135) (by decide +kernel), List.mem_of_getElem? (i := 528) (by decide +kernel), List.mem_of_getElem? (i := 529) (by decide +kernel)⟩
theorem lw_p9 : lw_okq (⟨"PartedSums$Script", "readNumber", "(I)Z"⟩, 9) := ⟨⟨by decide +kernel, by decide +kernel⟩, List.mem_of_getElem? (i := 135) (by decide +kernel), List.mem_of_getElem? (i := 535) (by decide +kernel), List.mem_of_getElem? (i := 536) (by decide +kernel)⟩
theorem lw_p10 : lw_okq (⟨"PartedSums$Script", "readSign", "(C)Z"⟩, 9) := ⟨⟨by decide +kernel, by decide +kernel⟩, List.mem_of_getElem? (i := 135) (by decide +kernel), List.mem_of_getElem? (i := 540) (by decide +kernel), List.mem_of_getElem? (i := 541) (by decide +kernel)⟩
theorem lw_p11 : lw_okq (⟨"PartedSums$Script", "noteFault", "(III)V"⟩, 9) := ⟨⟨by decide +kernel, by decide +kernel⟩, List.mem_of_getElem? (i := 135) (by decide +kernel), List.mem_of_getElem? (i := 544) (by decide +kernel), List.mem_of_getElem? (i := 545) (by decide +kernel)⟩
theorem lw_p12 : lw_okq (⟨"PartedSums$Script", "doOrder", "(LPartedSums$State;)I"⟩, 9) := ⟨⟨by decide +kernel, by decide +kernel⟩, List.mem_of_getElem? (i := 135) (by decide +kernel), List.mem_of_getElem? (i := 548) (by decide +kernel), List.mem_of_getElem? (i := 549) (by decide +kernel)⟩
theorem lw_p13 : lw_okq (⟨"PartedSumsModel", "isView", "(I)Z"⟩, 15) := ⟨⟨by decide +kernel, by decide +kernel⟩, List.mem_of_getElem? (i := 563) (by decide +kernel), List.mem_of_getElem? (i := 619) (by decide +kernel), List.mem_of_getElem? (i := 620) (by decide +kernel)⟩
theorem lw_p14 : lw_okq (⟨"PartedSumsModel", "changes", "()V"⟩, 15) := ⟨⟨by decide +kernel, by decide +kernel⟩, List.mem_of_getElem? (i := 563) (by decide +kernel), List.mem_of_getElem? (i := 628) (by decide +kernel), List.mem_of_getElem? (i := 629) (by decide +kernel)⟩
theorem lw_p15 : lw_okq (⟨"PartedSumsModel", "isWriter", "(I)Z"⟩, 15) := ⟨⟨by decide +kernel, by decide +kernel⟩, List.mem_of_getElem? (i := 563) (by decide +kernel), List.mem_of_getElem? (i := 642) (by decide +kernel), List.mem_of_getElem? (i := 643) (by decide +kernel)⟩
def lw_privs_1 : List (MethodName × Nat) := [(⟨"PartedSums", "freshTrial", "()LPartedSums$State;"⟩, 6), (⟨"PartedSums", "settle", "(I)I"⟩, 6), (⟨"PartedSums$State", "insertLetter", "(I)LPartedSums$Letter;"⟩, 11), (⟨"PartedSums$State", "receive", "(LPartedSums$Letter;)V"⟩, 11), (⟨"PartedSums$State", "removeLetters", "(I)V"⟩, 11), (⟨"PartedSums", "tryMerging", "(II)I"⟩, 6), (⟨"PartedSums$State", "viewBehind", "(I)I"⟩, 11), (⟨"PartedSums", "partsLackedOfAll", "(I)I"⟩, 6), (⟨"PartedSums$Script", "readOrder", "(I)Z"⟩, 9), (⟨"PartedSums$Script", "readNumber", "(I)Z"⟩, 9), (⟨"PartedSums$Script", "readSign", "(C)Z"⟩, 9), (⟨"PartedSums$Script", "noteFault", "(III)V"⟩, 9), (⟨"PartedSums$Script", "doOrder", "(LPartedSums$State;)I"⟩, 9), (⟨"PartedSumsModel", "isView", "(I)Z"⟩, 15), (⟨"PartedSumsModel", "changes", "()V"⟩, 15), (⟨"PartedSumsModel", "isWriter", "(I)Z"⟩, 15)]
theorem lw_r1 : ∀ q ∈ lw_privs_1, lw_okq q := List.forall_mem_cons.mpr ⟨lw_p0, List.forall_mem_cons.mpr ⟨lw_p1, List.forall_mem_cons.mpr ⟨lw_p2, List.forall_mem_cons.mpr ⟨lw_p3, List.forall_mem_cons.mpr ⟨lw_p4, List.forall_mem_cons.mpr ⟨lw_p5, List.forall_mem_cons.mpr ⟨lw_p6, List.forall_mem_cons.mpr ⟨lw_p7, List.forall_mem_cons.mpr ⟨lw_p8, List.forall_mem_cons.mpr ⟨lw_p9, List.forall_mem_cons.mpr ⟨lw_p10, List.forall_mem_cons.mpr ⟨lw_p11, List.forall_mem_cons.mpr ⟨lw_p12, List.forall_mem_cons.mpr ⟨lw_p13, List.forall_mem_cons.mpr ⟨lw_p14, List.forall_mem_cons.mpr ⟨lw_p15, fun _ h => absurd h List.not_mem_nil⟩⟩⟩⟩⟩⟩⟩⟩⟩⟩⟩⟩⟩⟩⟩⟩
theorem lw_p16 : lw_okq (⟨"PartedSumsModel", "isRetired", "(I)Z"⟩, 15) := ⟨⟨by decide +kernel, by decide +kernel⟩, List.mem_of_getElem? (i := 563) (by decide +kernel), List.mem_of_getElem? (i := 646) (by decide +kernel), List.mem_of_getElem? (i := 647) (by decide +kernel)⟩
theorem lw_p17 : lw_okq (⟨"PartedSumsModel", "ofWriter", "(II)I"⟩, 15) := ⟨⟨by decide +kernel, by decide +kernel⟩, List.mem_of_getElem? (i := 563) (by decide +kernel), List.mem_of_getElem? (i := 650) (by decide +kernel), List.mem_of_getElem? (i := 651) (by decide +kernel)⟩
theorem lw_p18 : lw_okq (⟨"PartedSumsModel", "writes", "(III)I"⟩, 15) := ⟨⟨by decide +kernel, by decide +kernel⟩, List.mem_of_getElem? (i := 563) (by decide +kernel), List.mem_of_getElem? (i := 655) (by decide +kernel), List.mem_of_getElem? (i := 656) (by decide +kernel)⟩
theorem lw_p19 : lw_okq (⟨"PartedSumsModel", "ownPart", "(I)I"⟩, 15) := ⟨⟨by decide +kernel, by decide +kernel⟩, List.mem_of_getElem? (i := 563) (by decide +kernel), List.mem_of_getElem? (i := 659) (by decide +kernel), List.mem_of_getElem? (i := 660) (by decide +kernel)⟩
theorem lw_p20 : lw_okq (⟨"PartedSumsModel", "sum", "(II)I"⟩, 15) := ⟨⟨by decide +kernel, by decide +kernel⟩, List.mem_of_getElem? (i := 563) (by decide +kernel), List.mem_of_getElem? (i := 663) (by decide +kernel), List.mem_of_getElem? (i := 664) (by decide +kernel)⟩
theorem lw_p21 : lw_okq (⟨"PartedSumsModel", "forgets", "(I)V"⟩, 15) := ⟨⟨by decide +kernel, by decide +kernel⟩, List.mem_of_getElem? (i := 563) (by decide +kernel), List.mem_of_getElem? (i := 675) (by decide +kernel), List.mem_of_getElem? (i := 676) (by decide +kernel)⟩
theorem lw_p22 : lw_okq (⟨"PartedSumsModel", "active", "()I"⟩, 15) := ⟨⟨by decide +kernel, by decide +kernel⟩, List.mem_of_getElem? (i := 563) (by decide +kernel), List.mem_of_getElem? (i := 679) (by decide +kernel), List.mem_of_getElem? (i := 680) (by decide +kernel)⟩
theorem lw_p23 : lw_okq (⟨"PartedSumsModel", "lays", "(II)V"⟩, 15) := ⟨⟨by decide +kernel, by decide +kernel⟩, List.mem_of_getElem? (i := 563) (by decide +kernel), List.mem_of_getElem? (i := 691) (by decide +kernel), List.mem_of_getElem? (i := 692) (by decide +kernel)⟩
theorem lw_p24 : lw_okq (⟨"PartedSumsModel", "homers", "(I)I"⟩, 15) := ⟨⟨by decide +kernel, by decide +kernel⟩, List.mem_of_getElem? (i := 563) (by decide +kernel), List.mem_of_getElem? (i := 699) (by decide +kernel), List.mem_of_getElem? (i := 700) (by decide +kernel)⟩
theorem lw_p25 : lw_okq (⟨"PartedSumsModel", "views", "()I"⟩, 15) := ⟨⟨by decide +kernel, by decide +kernel⟩, List.mem_of_getElem? (i := 563) (by decide +kernel), List.mem_of_getElem? (i := 703) (by decide +kernel), List.mem_of_getElem? (i := 704) (by decide +kernel)⟩
theorem lw_p26 : lw_okq (⟨"PartedSumsModel", "takesIn", "(II)I"⟩, 15) := ⟨⟨by decide +kernel, by decide +kernel⟩, List.mem_of_getElem? (i := 563) (by decide +kernel), List.mem_of_getElem? (i := 714) (by decide +kernel), List.mem_of_getElem? (i := 715) (by decide +kernel)⟩
theorem lw_p27 : lw_okq (⟨"PartedSumsModel", "goes", "()I"⟩, 15) := ⟨⟨by decide +kernel, by decide +kernel⟩, List.mem_of_getElem? (i := 563) (by decide +kernel), List.mem_of_getElem? (i := 729) (by decide +kernel), List.mem_of_getElem? (i := 730) (by decide +kernel)⟩
theorem lw_p28 : lw_okq (⟨"PartedSumsModel", "ofLetter", "(II)I"⟩, 15) := ⟨⟨by decide +kernel, by decide +kernel⟩, List.mem_of_getElem? (i := 563) (by decide +kernel), List.mem_of_getElem? (i := 733) (by decide +kernel), List.mem_of_getElem? (i := 734) (by decide +kernel)⟩
theorem lw_p29 : lw_okq (⟨"PartedSumsModel", "comes", "(I)Z"⟩, 15) := ⟨⟨by decide +kernel, by decide +kernel⟩, List.mem_of_getElem? (i := 563) (by decide +kernel), List.mem_of_getElem? (i := 737) (by decide +kernel), List.mem_of_getElem? (i := 738) (by decide +kernel)⟩
theorem lw_p30 : lw_okq (⟨"PartedSumsModel", "isLost", "(I)Z"⟩, 15) := ⟨⟨by decide +kernel, by decide +kernel⟩, List.mem_of_getElem? (i := 563) (by decide +kernel), List.mem_of_getElem? (i := 741) (by decide +kernel), List.mem_of_getElem? (i := 742) (by decide +kernel)⟩
theorem lw_p31 : lw_okq (⟨"PartedSumsModel", "known", "(I)I"⟩, 15) := ⟨⟨by decide +kernel, by decide +kernel⟩, List.mem_of_getElem? (i := 563) (by decide +kernel), List.mem_of_getElem? (i := 749) (by decide +kernel), List.mem_of_getElem? (i := 750) (by decide +kernel)⟩
def lw_privs_2 : List (MethodName × Nat) := [(⟨"PartedSumsModel", "isRetired", "(I)Z"⟩, 15), (⟨"PartedSumsModel", "ofWriter", "(II)I"⟩, 15), (⟨"PartedSumsModel", "writes", "(III)I"⟩, 15), (⟨"PartedSumsModel", "ownPart", "(I)I"⟩, 15), (⟨"PartedSumsModel", "sum", "(II)I"⟩, 15), (⟨"PartedSumsModel", "forgets", "(I)V"⟩, 15), (⟨"PartedSumsModel", "active", "()I"⟩, 15), (⟨"PartedSumsModel", "lays", "(II)V"⟩, 15), (⟨"PartedSumsModel", "homers", "(I)I"⟩, 15), (⟨"PartedSumsModel", "views", "()I"⟩, 15), (⟨"PartedSumsModel", "takesIn", "(II)I"⟩, 15), (⟨"PartedSumsModel", "goes", "()I"⟩, 15), (⟨"PartedSumsModel", "ofLetter", "(II)I"⟩, 15), (⟨"PartedSumsModel", "comes", "(I)Z"⟩, 15), (⟨"PartedSumsModel", "isLost", "(I)Z"⟩, 15), (⟨"PartedSumsModel", "known", "(I)I"⟩, 15)]
theorem lw_r2 : ∀ q ∈ lw_privs_2, lw_okq q := List.forall_mem_cons.mpr ⟨lw_p16, List.forall_mem_cons.mpr ⟨lw_p17, List.forall_mem_cons.mpr ⟨lw_p18, List.forall_mem_cons.mpr ⟨lw_p19, List.forall_mem_cons.mpr ⟨lw_p20, List.forall_mem_cons.mpr ⟨lw_p21, List.forall_mem_cons.mpr ⟨lw_p22, List.forall_mem_cons.mpr ⟨lw_p23, List.forall_mem_cons.mpr ⟨lw_p24, List.forall_mem_cons.mpr ⟨lw_p25, List.forall_mem_cons.mpr ⟨lw_p26, List.forall_mem_cons.mpr ⟨lw_p27, List.forall_mem_cons.mpr ⟨lw_p28, List.forall_mem_cons.mpr ⟨lw_p29, List.forall_mem_cons.mpr ⟨lw_p30, List.forall_mem_cons.mpr ⟨lw_p31, fun _ h => absurd h List.not_mem_nil⟩⟩⟩⟩⟩⟩⟩⟩⟩⟩⟩⟩⟩⟩⟩⟩
theorem lw_p32 : lw_okq (⟨"PartedSumsModel", "alike", "(I)I"⟩, 15) := ⟨⟨by decide +kernel, by decide +kernel⟩, List.mem_of_getElem? (i := 563) (by decide +kernel), List.mem_of_getElem? (i := 753) (by decide +kernel), List.mem_of_getElem? (i := 754) (by decide +kernel)⟩
theorem lw_p33 : lw_okq (⟨"PartedSumsModel", "isSame", "(II)Z"⟩, 15) := ⟨⟨by decide +kernel, by decide +kernel⟩, List.mem_of_getElem? (i := 563) (by decide +kernel), List.mem_of_getElem? (i := 757) (by decide +kernel), List.mem_of_getElem? (i := 758) (by decide +kernel)⟩
theorem lw_p34 : lw_okq (⟨"PartedSumsModel", "viewsWith", "(IZ)I"⟩, 15) := ⟨⟨by decide +kernel, by decide +kernel⟩, List.mem_of_getElem? (i := 563) (by decide +kernel), List.mem_of_getElem? (i := 770) (by decide +kernel), List.mem_of_getElem? (i := 771) (by decide +kernel)⟩
theorem lw_p35 : lw_okq (⟨"PartedSumsModel", "letterAt", "(I)I"⟩, 15) := ⟨⟨by decide +kernel, by decide +kernel⟩, List.mem_of_getElem? (i := 563) (by decide +kernel), List.mem_of_getElem? (i := 778) (by decide +kernel), List.mem_of_getElem? (i := 779) (by decide +kernel)⟩
theorem lw_p36 : lw_okq (⟨"PartedSumsModel", "lacking", "(III)I"⟩, 15) := ⟨⟨by decide +kernel, by decide +kernel⟩, List.mem_of_getElem? (i := 563) (by decide +kernel), List.mem_of_getElem? (i := 786) (by decide +kernel), List.mem_of_getElem? (i := 787) (by decide +kernel)⟩
theorem lw_p37 : lw_okq (⟨"PartedSumsModel", "first", "()I"⟩, 15) := ⟨⟨by decide +kernel, by decide +kernel⟩, List.mem_of_getElem? (i := 563) (by decide +kernel), List.mem_of_getElem? (i := 797) (by decide +kernel), List.mem_of_getElem? (i := 798) (by decide +kernel)⟩
theorem lw_p38 : lw_okq (⟨"PartedSumsModel", "following", "(I)I"⟩, 15) := ⟨⟨by decide +kernel, by decide +kernel⟩, List.mem_of_getElem? (i := 563) (by decide +kernel), List.mem_of_getElem? (i := 809) (by decide +kernel), List.mem_of_getElem? (i := 810) (by decide +kernel)⟩
theorem lw_p39 : lw_okq (⟨"PartedSumsModel", "plays", "()Z"⟩, 15) := ⟨⟨by decide +kernel, by decide +kernel⟩, List.mem_of_getElem? (i := 563) (by decide +kernel), List.mem_of_getElem? (i := 841) (by decide +kernel), List.mem_of_getElem? (i := 842) (by decide +kernel)⟩
theorem lw_p40 : lw_okq (⟨"PartedSumsModel", "reads", "()Z"⟩, 15) := ⟨⟨by decide +kernel, by decide +kernel⟩, List.mem_of_getElem? (i := 563) (by decide +kernel), List.mem_of_getElem? (i := 845) (by decide +kernel), List.mem_of_getElem? (i := 846) (by decide +kernel)⟩
theorem lw_p41 : lw_okq (⟨"PartedSumsModel", "isAt", "(II)Z"⟩, 15) := ⟨⟨by decide +kernel, by decide +kernel⟩, List.mem_of_getElem? (i := 563) (by decide +kernel), List.mem_of_getElem? (i := 849) (by decide +kernel), List.mem_of_getElem? (i := 850) (by decide +kernel)⟩
theorem lw_p42 : lw_okq (⟨"PartedSumsModel", "number", "(I)Z"⟩, 15) := ⟨⟨by decide +kernel, by decide +kernel⟩, List.mem_of_getElem? (i := 563) (by decide +kernel), List.mem_of_getElem? (i := 856) (by decide +kernel), List.mem_of_getElem? (i := 857) (by decide +kernel)⟩
theorem lw_p43 : lw_okq (⟨"PartedSumsModel", "sign", "(I)Z"⟩, 15) := ⟨⟨by decide +kernel, by decide +kernel⟩, List.mem_of_getElem? (i := 563) (by decide +kernel), List.mem_of_getElem? (i := 860) (by decide +kernel), List.mem_of_getElem? (i := 861) (by decide +kernel)⟩
theorem lw_p44 : lw_okq (⟨"PartedSumsModel", "calls", "()I"⟩, 15) := ⟨⟨by decide +kernel, by decide +kernel⟩, List.mem_of_getElem? (i := 563) (by decide +kernel), List.mem_of_getElem? (i := 864) (by decide +kernel), List.mem_of_getElem? (i := 865) (by decide +kernel)⟩
def lw_privs_3 : List (MethodName × Nat) := [(⟨"PartedSumsModel", "alike", "(I)I"⟩, 15), (⟨"PartedSumsModel", "isSame", "(II)Z"⟩, 15), (⟨"PartedSumsModel", "viewsWith", "(IZ)I"⟩, 15), (⟨"PartedSumsModel", "letterAt", "(I)I"⟩, 15), (⟨"PartedSumsModel", "lacking", "(III)I"⟩, 15), (⟨"PartedSumsModel", "first", "()I"⟩, 15), (⟨"PartedSumsModel", "following", "(I)I"⟩, 15), (⟨"PartedSumsModel", "plays", "()Z"⟩, 15), (⟨"PartedSumsModel", "reads", "()Z"⟩, 15), (⟨"PartedSumsModel", "isAt", "(II)Z"⟩, 15), (⟨"PartedSumsModel", "number", "(I)Z"⟩, 15), (⟨"PartedSumsModel", "sign", "(I)Z"⟩, 15), (⟨"PartedSumsModel", "calls", "()I"⟩, 15)]
theorem lw_r3 : ∀ q ∈ lw_privs_3, lw_okq q := List.forall_mem_cons.mpr ⟨lw_p32, List.forall_mem_cons.mpr ⟨lw_p33, List.forall_mem_cons.mpr ⟨lw_p34, List.forall_mem_cons.mpr ⟨lw_p35, List.forall_mem_cons.mpr ⟨lw_p36, List.forall_mem_cons.mpr ⟨lw_p37, List.forall_mem_cons.mpr ⟨lw_p38, List.forall_mem_cons.mpr ⟨lw_p39, List.forall_mem_cons.mpr ⟨lw_p40, List.forall_mem_cons.mpr ⟨lw_p41, List.forall_mem_cons.mpr ⟨lw_p42, List.forall_mem_cons.mpr ⟨lw_p43, List.forall_mem_cons.mpr ⟨lw_p44, fun _ h => absurd h List.not_mem_nil⟩⟩⟩⟩⟩⟩⟩⟩⟩⟩⟩⟩⟩
def lw_privs : List (MethodName × Nat) := lw_privs_1 ++ (lw_privs_2 ++ (lw_privs_3))
def lw_tbl : List Cond := k2_sels lw_privs ++ tables_1
theorem lw_privs_ok : ∀ q ∈ lw_privs, lw_okq q := by
  show ∀ q ∈ lw_privs_1 ++ (lw_privs_2 ++ (lw_privs_3)), lw_okq q
  exact List.forall_mem_append.mpr ⟨lw_r1, List.forall_mem_append.mpr ⟨lw_r2, lw_r3⟩⟩
def RX0 : String := "PartedSums$Knowledge"
def TX0 : u_T := fun k => match k with
  | 0 => ("PartedSums$Knowledge", "versions", "[I", true)
  | 1 => ("PartedSums$Knowledge", "added", "[I", true)
  | 2 => ("PartedSums$Knowledge", "taken", "[I", true)
  | _ => ("PartedSums$Knowledge", "graves", "I", false)
def tyX0 : Nat → FieldType := fun k => match k with
  | 0 => .array .int
  | 1 => .array .int
  | 2 => .array .int
  | _ => .int
abbrev wsX00 : List Cond := u_ws RX0 TX0 4
theorem nmX0 : ∀ a, a < 4 → ∀ b, b < 4 → a ≠ b → (TX0 a).2.1 ≠ (TX0 b).2.1 := by decide +kernel
theorem tyX0_ok : ∀ k, k < 4 → parseFieldDescriptor (TX0 k).2.2.1 = some (tyX0 k) := by decide +kernel
abbrev cX0_init : ByteArray := prog_2_method_1_code
def yX0_init : MethodName := ⟨RX0, "<init>", "()V"⟩
abbrev cX0_copyFrom : ByteArray := prog_2_method_2_code
def yX0_copyFrom : MethodName := ⟨RX0, "copyFrom", "(LPartedSums$Knowledge;)V"⟩
abbrev cX0_forgetAll : ByteArray := prog_2_method_3_code
def yX0_forgetAll : MethodName := ⟨RX0, "forgetAll", "()V"⟩
abbrev cX0_forgetPart : ByteArray := prog_2_method_4_code
def yX0_forgetPart : MethodName := ⟨RX0, "forgetPart", "(I)V"⟩
abbrev cX0_knows : ByteArray := prog_2_method_5_code
def yX0_knows : MethodName := ⟨RX0, "knows", "(I)Z"⟩
abbrev cX0_hasGrave : ByteArray := prog_2_method_6_code
def yX0_hasGrave : MethodName := ⟨RX0, "hasGrave", "(I)Z"⟩
abbrev cX0_raise : ByteArray := prog_2_method_7_code
def yX0_raise : MethodName := ⟨RX0, "raise", "(III)V"⟩
abbrev cX0_bequeath : ByteArray := prog_2_method_8_code
def yX0_bequeath : MethodName := ⟨RX0, "bequeath", "(II)V"⟩
abbrev cX0_takeIn : ByteArray := prog_2_method_9_code
def yX0_takeIn : MethodName := ⟨RX0, "takeIn", "(LPartedSums$Knowledge;)I"⟩
abbrev cX0_knowsTheSameAs : ByteArray := prog_2_method_10_code
def yX0_knowsTheSameAs : MethodName := ⟨RX0, "knowsTheSameAs", "(LPartedSums$Knowledge;)Z"⟩
abbrev cX0_allAdded : ByteArray := prog_2_method_11_code
def yX0_allAdded : MethodName := ⟨RX0, "allAdded", "()I"⟩
abbrev cX0_allTaken : ByteArray := prog_2_method_12_code
def yX0_allTaken : MethodName := ⟨RX0, "allTaken", "()I"⟩
abbrev cX0_sum : ByteArray := prog_2_method_13_code
def yX0_sum : MethodName := ⟨RX0, "sum", "()I"⟩
abbrev cX0_knownWriters : ByteArray := prog_2_method_14_code
def yX0_knownWriters : MethodName := ⟨RX0, "knownWriters", "()I"⟩
def RX1 : String := "PartedSums$Letter"
def TX1 : u_T := fun k => match k with
  | 0 => ("PartedSums$Letter", "from", "I", false)
  | 1 => ("PartedSums$Letter", "to", "I", false)
  | 2 => ("PartedSums$Letter", "arrival", "I", false)
  | 3 => ("PartedSums$Letter", "lost", "Z", false)
  | _ => ("PartedSums$Letter", "told", "LPartedSums$Knowledge;", true)
def tyX1 : Nat → FieldType := fun k => match k with
  | 0 => .int
  | 1 => .int
  | 2 => .int
  | 3 => .boolean
  | _ => .object "PartedSums$Knowledge"
abbrev wsX10 : List Cond := u_ws RX1 TX1 5
theorem nmX1 : ∀ a, a < 5 → ∀ b, b < 5 → a ≠ b → (TX1 a).2.1 ≠ (TX1 b).2.1 := by decide +kernel
theorem tyX1_ok : ∀ k, k < 5 → parseFieldDescriptor (TX1 k).2.2.1 = some (tyX1 k) := by decide +kernel
abbrev cX1_init : ByteArray := prog_3_method_1_code
def yX1_init : MethodName := ⟨RX1, "<init>", "()V"⟩
abbrev cX1_copyFrom : ByteArray := prog_3_method_2_code
def yX1_copyFrom : MethodName := ⟨RX1, "copyFrom", "(LPartedSums$Letter;)V"⟩
def RX2 : String := "PartedSums$Script"
def TX2 : u_T := fun k => match k with
  | 0 => ("PartedSums$Script", "characters", "[I", true)
  | 1 => ("PartedSums$Script", "length", "I", false)
  | 2 => ("PartedSums$Script", "orders", "I", false)
  | 3 => ("PartedSums$Script", "faultAt", "I", false)
  | 4 => ("PartedSums$Script", "faultReason", "I", false)
  | 5 => ("PartedSums$Script", "faultCause", "I", false)
  | 6 => ("PartedSums$Script", "kind", "I", false)
  | 7 => ("PartedSums$Script", "numbers", "[I", true)
  | _ => ("PartedSums$Script", "at", "I", false)
def tyX2 : Nat → FieldType := fun k => match k with
  | 0 => .array .int
  | 1 => .int
  | 2 => .int
  | 3 => .int
  | 4 => .int
  | 5 => .int
  | 6 => .int
  | 7 => .array .int
  | _ => .int
abbrev wsX20 : List Cond := u_ws RX2 TX2 9
theorem nmX2 : ∀ a, a < 9 → ∀ b, b < 9 → a ≠ b → (TX2 a).2.1 ≠ (TX2 b).2.1 := by decide +kernel
theorem tyX2_ok : ∀ k, k < 9 → parseFieldDescriptor (TX2 k).2.2.1 = some (tyX2 k) := by decide +kernel
abbrev cX2_init : ByteArray := prog_4_method_1_code
def yX2_init : MethodName := ⟨RX2, "<init>", "()V"⟩
abbrev cX2_append : ByteArray := prog_4_method_2_code
def yX2_append : MethodName := ⟨RX2, "append", "(I)I"⟩
abbrev cX2_runIn : ByteArray := prog_4_method_3_code
def yX2_runIn : MethodName := ⟨RX2, "runIn", "(LPartedSums$State;)V"⟩
abbrev cX2_noteFault : ByteArray := prog_4_method_4_code
def yX2_noteFault : MethodName := ⟨RX2, "noteFault", "(III)V"⟩
abbrev cX2_readOrder : ByteArray := prog_4_method_5_code
def yX2_readOrder : MethodName := ⟨RX2, "readOrder", "(I)Z"⟩
abbrev cX2_numbersOf : ByteArray := prog_4_method_6_code
def yX2_numbersOf : MethodName := ⟨RX2, "numbersOf", "(I)I"⟩
abbrev cX2_readNumber : ByteArray := prog_4_method_7_code
def yX2_readNumber : MethodName := ⟨RX2, "readNumber", "(I)Z"⟩
abbrev cX2_readSign : ByteArray := prog_4_method_8_code
def yX2_readSign : MethodName := ⟨RX2, "readSign", "(C)Z"⟩
abbrev cX2_doOrder : ByteArray := prog_4_method_9_code
def yX2_doOrder : MethodName := ⟨RX2, "doOrder", "(LPartedSums$State;)I"⟩
def RX3 : String := "PartedSums$State"
def TX3 : u_T := fun k => match k with
  | 0 => ("PartedSums$State", "views", "[LPartedSums$Knowledge;", true)
  | 1 => ("PartedSums$State", "viewSet", "I", false)
  | 2 => ("PartedSums$State", "homes", "[I", true)
  | 3 => ("PartedSums$State", "heirs", "[I", true)
  | 4 => ("PartedSums$State", "writers", "I", false)
  | 5 => ("PartedSums$State", "letters", "[LPartedSums$Letter;", true)
  | 6 => ("PartedSums$State", "letterCount", "I", false)
  | 7 => ("PartedSums$State", "time", "I", false)
  | 8 => ("PartedSums$State", "lettersTakenIn", "I", false)
  | 9 => ("PartedSums$State", "lettersLost", "I", false)
  | _ => ("PartedSums$State", "partsMerged", "I", false)
def tyX3 : Nat → FieldType := fun k => match k with
  | 0 => .array (.object "PartedSums$Knowledge")
  | 1 => .int
  | 2 => .array .int
  | 3 => .array .int
  | 4 => .int
  | 5 => .array (.object "PartedSums$Letter")
  | 6 => .int
  | 7 => .int
  | 8 => .int
  | 9 => .int
  | _ => .int
abbrev wsX30 : List Cond := u_ws RX3 TX3 11
theorem nmX3 : ∀ a, a < 11 → ∀ b, b < 11 → a ≠ b → (TX3 a).2.1 ≠ (TX3 b).2.1 := by decide +kernel
theorem tyX3_ok : ∀ k, k < 11 → parseFieldDescriptor (TX3 k).2.2.1 = some (tyX3 k) := by decide +kernel
abbrev cX3_init : ByteArray := prog_5_method_1_code
def yX3_init : MethodName := ⟨RX3, "<init>", "()V"⟩
abbrev cX3_copyFrom : ByteArray := prog_5_method_2_code
def yX3_copyFrom : MethodName := ⟨RX3, "copyFrom", "(LPartedSums$State;)V"⟩
abbrev cX3_hasView : ByteArray := prog_5_method_3_code
def yX3_hasView : MethodName := ⟨RX3, "hasView", "(I)Z"⟩
abbrev cX3_hasWriter : ByteArray := prog_5_method_4_code
def yX3_hasWriter : MethodName := ⟨RX3, "hasWriter", "(I)Z"⟩
abbrev cX3_hasRetired : ByteArray := prog_5_method_5_code
def yX3_hasRetired : MethodName := ⟨RX3, "hasRetired", "(I)Z"⟩
abbrev cX3_countViews : ByteArray := prog_5_method_6_code
def yX3_countViews : MethodName := ⟨RX3, "countViews", "()I"⟩
abbrev cX3_countActiveWriters : ByteArray := prog_5_method_7_code
def yX3_countActiveWriters : MethodName := ⟨RX3, "countActiveWriters", "()I"⟩
abbrev cX3_homeOf : ByteArray := prog_5_method_8_code
def yX3_homeOf : MethodName := ⟨RX3, "homeOf", "(I)LPartedSums$Knowledge;"⟩
abbrev cX3_homeVersion : ByteArray := prog_5_method_9_code
def yX3_homeVersion : MethodName := ⟨RX3, "homeVersion", "(I)I"⟩
abbrev cX3_writersAtHome : ByteArray := prog_5_method_10_code
def yX3_writersAtHome : MethodName := ⟨RX3, "writersAtHome", "(I)I"⟩
abbrev cX3_viewsThatKnowTheSame : ByteArray := prog_5_method_11_code
def yX3_viewsThatKnowTheSame : MethodName := ⟨RX3, "viewsThatKnowTheSame", "(I)I"⟩
abbrev cX3_viewsUpToDate : ByteArray := prog_5_method_12_code
def yX3_viewsUpToDate : MethodName := ⟨RX3, "viewsUpToDate", "(I)I"⟩
abbrev cX3_viewsWithGrave : ByteArray := prog_5_method_13_code
def yX3_viewsWithGrave : MethodName := ⟨RX3, "viewsWithGrave", "(I)I"⟩
abbrev cX3_leastKnown : ByteArray := prog_5_method_14_code
def yX3_leastKnown : MethodName := ⟨RX3, "leastKnown", "(I)I"⟩
abbrev cX3_bringWriter : ByteArray := prog_5_method_15_code
def yX3_bringWriter : MethodName := ⟨RX3, "bringWriter", "(I)I"⟩
abbrev cX3_addAmount : ByteArray := prog_5_method_16_code
def yX3_addAmount : MethodName := ⟨RX3, "addAmount", "(II)I"⟩
abbrev cX3_takeAmount : ByteArray := prog_5_method_17_code
def yX3_takeAmount : MethodName := ⟨RX3, "takeAmount", "(II)I"⟩
abbrev cX3_retireWriter : ByteArray := prog_5_method_18_code
def yX3_retireWriter : MethodName := ⟨RX3, "retireWriter", "(II)I"⟩
abbrev cX3_moveWriter : ByteArray := prog_5_method_19_code
def yX3_moveWriter : MethodName := ⟨RX3, "moveWriter", "(II)I"⟩
abbrev cX3_copyView : ByteArray := prog_5_method_20_code
def yX3_copyView : MethodName := ⟨RX3, "copyView", "(I)I"⟩
abbrev cX3_dropView : ByteArray := prog_5_method_21_code
def yX3_dropView : MethodName := ⟨RX3, "dropView", "(I)I"⟩
abbrev cX3_mergeViews : ByteArray := prog_5_method_22_code
def yX3_mergeViews : MethodName := ⟨RX3, "mergeViews", "(II)I"⟩
abbrev cX3_postLetter : ByteArray := prog_5_method_23_code
def yX3_postLetter : MethodName := ⟨RX3, "postLetter", "(III)I"⟩
abbrev cX3_insertLetter : ByteArray := prog_5_method_24_code
def yX3_insertLetter : MethodName := ⟨RX3, "insertLetter", "(I)LPartedSums$Letter;"⟩
abbrev cX3_passTicks : ByteArray := prog_5_method_25_code
def yX3_passTicks : MethodName := ⟨RX3, "passTicks", "(I)I"⟩
abbrev cX3_receive : ByteArray := prog_5_method_26_code
def yX3_receive : MethodName := ⟨RX3, "receive", "(LPartedSums$Letter;)V"⟩
abbrev cX3_removeLetters : ByteArray := prog_5_method_27_code
def yX3_removeLetters : MethodName := ⟨RX3, "removeLetters", "(I)V"⟩
abbrev cX3_mergeUntilAllAgree : ByteArray := prog_5_method_28_code
def yX3_mergeUntilAllAgree : MethodName := ⟨RX3, "mergeUntilAllAgree", "()I"⟩
abbrev cX3_viewBehind : ByteArray := prog_5_method_29_code
def yX3_viewBehind : MethodName := ⟨RX3, "viewBehind", "(I)I"⟩
def RX4 : String := "PartedSums"
def TX4 : u_T := fun k => match k with
  | 0 => ("PartedSums", "now", "LPartedSums$State;", false)
  | 1 => ("PartedSums", "trial", "LPartedSums$State;", false)
  | 2 => ("PartedSums", "past", "[LPartedSums$State;", true)
  | 3 => ("PartedSums", "pastStates", "I", false)
  | 4 => ("PartedSums", "scratch", "LPartedSums$Knowledge;", true)
  | _ => ("PartedSums", "script", "LPartedSums$Script;", true)
def tyX4 : Nat → FieldType := fun k => match k with
  | 0 => .object "PartedSums$State"
  | 1 => .object "PartedSums$State"
  | 2 => .array (.object "PartedSums$State")
  | 3 => .int
  | 4 => .object "PartedSums$Knowledge"
  | _ => .object "PartedSums$Script"
abbrev wsX40 : List Cond := u_ws RX4 TX4 6
theorem nmX4 : ∀ a, a < 6 → ∀ b, b < 6 → a ≠ b → (TX4 a).2.1 ≠ (TX4 b).2.1 := by decide +kernel
theorem tyX4_ok : ∀ k, k < 6 → parseFieldDescriptor (TX4 k).2.2.1 = some (tyX4 k) := by decide +kernel
abbrev cX4_init : ByteArray := prog_1_method_1_code
def yX4_init : MethodName := ⟨RX4, "<init>", "()V"⟩
abbrev cX4_writer : ByteArray := prog_1_method_2_code
def yX4_writer : MethodName := ⟨RX4, "writer", "(I)I"⟩
abbrev cX4_add : ByteArray := prog_1_method_3_code
def yX4_add : MethodName := ⟨RX4, "add", "(II)I"⟩
abbrev cX4_take : ByteArray := prog_1_method_4_code
def yX4_take : MethodName := ⟨RX4, "take", "(II)I"⟩
abbrev cX4_retire : ByteArray := prog_1_method_5_code
def yX4_retire : MethodName := ⟨RX4, "retire", "(II)I"⟩
abbrev cX4_move : ByteArray := prog_1_method_6_code
def yX4_move : MethodName := ⟨RX4, "move", "(II)I"⟩
abbrev cX4_view : ByteArray := prog_1_method_7_code
def yX4_view : MethodName := ⟨RX4, "view", "(I)I"⟩
abbrev cX4_drop : ByteArray := prog_1_method_8_code
def yX4_drop : MethodName := ⟨RX4, "drop", "(I)I"⟩
abbrev cX4_merge : ByteArray := prog_1_method_9_code
def yX4_merge : MethodName := ⟨RX4, "merge", "(II)I"⟩
abbrev cX4_post : ByteArray := prog_1_method_10_code
def yX4_post : MethodName := ⟨RX4, "post", "(III)I"⟩
abbrev cX4_tick : ByteArray := prog_1_method_11_code
def yX4_tick : MethodName := ⟨RX4, "tick", "(I)I"⟩
abbrev cX4_viewOf : ByteArray := prog_1_method_12_code
def yX4_viewOf : MethodName := ⟨RX4, "viewOf", "(II)I"⟩
abbrev cX4_partOf : ByteArray := prog_1_method_13_code
def yX4_partOf : MethodName := ⟨RX4, "partOf", "(III)I"⟩
abbrev cX4_writerOf : ByteArray := prog_1_method_14_code
def yX4_writerOf : MethodName := ⟨RX4, "writerOf", "(II)I"⟩
abbrev cX4_letterOf : ByteArray := prog_1_method_15_code
def yX4_letterOf : MethodName := ⟨RX4, "letterOf", "(II)I"⟩
abbrev cX4_lacks : ByteArray := prog_1_method_16_code
def yX4_lacks : MethodName := ⟨RX4, "lacks", "(III)I"⟩
abbrev cX4_whole : ByteArray := prog_1_method_17_code
def yX4_whole : MethodName := ⟨RX4, "whole", "()I"⟩
abbrev cX4_seen : ByteArray := prog_1_method_18_code
def yX4_seen : MethodName := ⟨RX4, "seen", "()I"⟩
abbrev cX4_rounds : ByteArray := prog_1_method_19_code
def yX4_rounds : MethodName := ⟨RX4, "rounds", "()I"⟩
abbrev cX4_would : ByteArray := prog_1_method_20_code
def yX4_would : MethodName := ⟨RX4, "would", "(II)I"⟩
abbrev cX4_latest : ByteArray := prog_1_method_21_code
def yX4_latest : MethodName := ⟨RX4, "latest", "(I)I"⟩
abbrev cX4_count : ByteArray := prog_1_method_22_code
def yX4_count : MethodName := ⟨RX4, "count", "(I)I"⟩
abbrev cX4_undo : ByteArray := prog_1_method_23_code
def yX4_undo : MethodName := ⟨RX4, "undo", "()I"⟩
abbrev cX4_type : ByteArray := prog_1_method_24_code
def yX4_type : MethodName := ⟨RX4, "type", "(I)I"⟩
abbrev cX4_clearText : ByteArray := prog_1_method_25_code
def yX4_clearText : MethodName := ⟨RX4, "clearText", "()I"⟩
abbrev cX4_fault : ByteArray := prog_1_method_26_code
def yX4_fault : MethodName := ⟨RX4, "fault", "(I)I"⟩
abbrev cX4_play : ByteArray := prog_1_method_27_code
def yX4_play : MethodName := ⟨RX4, "play", "()I"⟩
abbrev cX4_freshTrial : ByteArray := prog_1_method_28_code
def yX4_freshTrial : MethodName := ⟨RX4, "freshTrial", "()LPartedSums$State;"⟩
abbrev cX4_settle : ByteArray := prog_1_method_29_code
def yX4_settle : MethodName := ⟨RX4, "settle", "(I)I"⟩
abbrev cX4_tryMerging : ByteArray := prog_1_method_30_code
def yX4_tryMerging : MethodName := ⟨RX4, "tryMerging", "(II)I"⟩
abbrev cX4_partsLackedOfAll : ByteArray := prog_1_method_31_code
def yX4_partsLackedOfAll : MethodName := ⟨RX4, "partsLackedOfAll", "(I)I"⟩
abbrev cX4_isWithin : ByteArray := prog_1_method_32_code
def yX4_isWithin : MethodName := ⟨RX4, "isWithin", "(III)Z"⟩
abbrev cX4_isError : ByteArray := prog_1_method_33_code
def yX4_isError : MethodName := ⟨RX4, "isError", "(I)Z"⟩
def RX5 : String := "PartedSumsModel"
def TX5 : u_T := fun k => match k with
  | 0 => ("PartedSumsModel", "s", "[I", true)
  | 1 => ("PartedSumsModel", "past", "[I", true)
  | 2 => ("PartedSumsModel", "held", "[I", true)
  | 3 => ("PartedSumsModel", "tried", "[I", true)
  | 4 => ("PartedSumsModel", "pasts", "I", false)
  | 5 => ("PartedSumsModel", "runs", "Z", false)
  | 6 => ("PartedSumsModel", "text", "[I", true)
  | 7 => ("PartedSumsModel", "typed", "I", false)
  | 8 => ("PartedSumsModel", "spot", "I", false)
  | 9 => ("PartedSumsModel", "from", "I", false)
  | 10 => ("PartedSumsModel", "reason", "I", false)
  | 11 => ("PartedSumsModel", "cause", "I", false)
  | 12 => ("PartedSumsModel", "orders", "I", false)
  | 13 => ("PartedSumsModel", "order", "I", false)
  | _ => ("PartedSumsModel", "told", "[I", true)
def tyX5 : Nat → FieldType := fun k => match k with
  | 0 => .array .int
  | 1 => .array .int
  | 2 => .array .int
  | 3 => .array .int
  | 4 => .int
  | 5 => .boolean
  | 6 => .array .int
  | 7 => .int
  | 8 => .int
  | 9 => .int
  | 10 => .int
  | 11 => .int
  | 12 => .int
  | 13 => .int
  | _ => .array .int
abbrev wsX50 : List Cond := u_ws RX5 TX5 15
theorem nmX5 : ∀ a, a < 15 → ∀ b, b < 15 → a ≠ b → (TX5 a).2.1 ≠ (TX5 b).2.1 := by decide +kernel
theorem tyX5_ok : ∀ k, k < 15 → parseFieldDescriptor (TX5 k).2.2.1 = some (tyX5 k) := by decide +kernel
abbrev cX5_init : ByteArray := prog_7_method_1_code
def yX5_init : MethodName := ⟨RX5, "<init>", "()V"⟩
abbrev cX5_in : ByteArray := prog_7_method_3_code
def yX5_in : MethodName := ⟨RX5, "in", "(III)Z"⟩
abbrev cX5_copies : ByteArray := prog_7_method_4_code
def yX5_copies : MethodName := ⟨RX5, "copies", "([I[I)V"⟩
abbrev cX5_changes : ByteArray := prog_7_method_5_code
def yX5_changes : MethodName := ⟨RX5, "changes", "()V"⟩
abbrev cX5_knows : ByteArray := prog_7_method_6_code
def yX5_knows : MethodName := ⟨RX5, "knows", "(I)I"⟩
abbrev cX5_knew : ByteArray := prog_7_method_7_code
def yX5_knew : MethodName := ⟨RX5, "knew", "(I)I"⟩
abbrev cX5_part : ByteArray := prog_7_method_8_code
def yX5_part : MethodName := ⟨RX5, "part", "(II)I"⟩
abbrev cX5_isView : ByteArray := prog_7_method_9_code
def yX5_isView : MethodName := ⟨RX5, "isView", "(I)Z"⟩
abbrev cX5_isWriter : ByteArray := prog_7_method_10_code
def yX5_isWriter : MethodName := ⟨RX5, "isWriter", "(I)Z"⟩
abbrev cX5_ofWriter : ByteArray := prog_7_method_11_code
def yX5_ofWriter : MethodName := ⟨RX5, "ofWriter", "(II)I"⟩
abbrev cX5_isRetired : ByteArray := prog_7_method_12_code
def yX5_isRetired : MethodName := ⟨RX5, "isRetired", "(I)Z"⟩
abbrev cX5_sum : ByteArray := prog_7_method_13_code
def yX5_sum : MethodName := ⟨RX5, "sum", "(II)I"⟩
abbrev cX5_ones : ByteArray := prog_7_method_14_code
def yX5_ones : MethodName := ⟨RX5, "ones", "(I)I"⟩
abbrev cX5_views : ByteArray := prog_7_method_15_code
def yX5_views : MethodName := ⟨RX5, "views", "()I"⟩
abbrev cX5_active : ByteArray := prog_7_method_16_code
def yX5_active : MethodName := ⟨RX5, "active", "()I"⟩
abbrev cX5_takesIn : ByteArray := prog_7_method_17_code
def yX5_takesIn : MethodName := ⟨RX5, "takesIn", "(II)I"⟩
abbrev cX5_forgets : ByteArray := prog_7_method_18_code
def yX5_forgets : MethodName := ⟨RX5, "forgets", "(I)V"⟩
abbrev cX5_isSame : ByteArray := prog_7_method_19_code
def yX5_isSame : MethodName := ⟨RX5, "isSame", "(II)Z"⟩
abbrev cX5_writer : ByteArray := prog_7_method_20_code
def yX5_writer : MethodName := ⟨RX5, "writer", "(I)I"⟩
abbrev cX5_ownPart : ByteArray := prog_7_method_21_code
def yX5_ownPart : MethodName := ⟨RX5, "ownPart", "(I)I"⟩
abbrev cX5_writes : ByteArray := prog_7_method_22_code
def yX5_writes : MethodName := ⟨RX5, "writes", "(III)I"⟩
abbrev cX5_add : ByteArray := prog_7_method_23_code
def yX5_add : MethodName := ⟨RX5, "add", "(II)I"⟩
abbrev cX5_take : ByteArray := prog_7_method_24_code
def yX5_take : MethodName := ⟨RX5, "take", "(II)I"⟩
abbrev cX5_retire : ByteArray := prog_7_method_25_code
def yX5_retire : MethodName := ⟨RX5, "retire", "(II)I"⟩
abbrev cX5_move : ByteArray := prog_7_method_26_code
def yX5_move : MethodName := ⟨RX5, "move", "(II)I"⟩
abbrev cX5_lays : ByteArray := prog_7_method_27_code
def yX5_lays : MethodName := ⟨RX5, "lays", "(II)V"⟩
abbrev cX5_view : ByteArray := prog_7_method_28_code
def yX5_view : MethodName := ⟨RX5, "view", "(I)I"⟩
abbrev cX5_homers : ByteArray := prog_7_method_29_code
def yX5_homers : MethodName := ⟨RX5, "homers", "(I)I"⟩
abbrev cX5_drop : ByteArray := prog_7_method_30_code
def yX5_drop : MethodName := ⟨RX5, "drop", "(I)I"⟩
abbrev cX5_merge : ByteArray := prog_7_method_31_code
def yX5_merge : MethodName := ⟨RX5, "merge", "(II)I"⟩
abbrev cX5_ofLetter : ByteArray := prog_7_method_32_code
def yX5_ofLetter : MethodName := ⟨RX5, "ofLetter", "(II)I"⟩
abbrev cX5_post : ByteArray := prog_7_method_33_code
def yX5_post : MethodName := ⟨RX5, "post", "(III)I"⟩
abbrev cX5_isLost : ByteArray := prog_7_method_34_code
def yX5_isLost : MethodName := ⟨RX5, "isLost", "(I)Z"⟩
abbrev cX5_comes : ByteArray := prog_7_method_35_code
def yX5_comes : MethodName := ⟨RX5, "comes", "(I)Z"⟩
abbrev cX5_goes : ByteArray := prog_7_method_36_code
def yX5_goes : MethodName := ⟨RX5, "goes", "()I"⟩
abbrev cX5_tick : ByteArray := prog_7_method_37_code
def yX5_tick : MethodName := ⟨RX5, "tick", "(I)I"⟩
abbrev cX5_known : ByteArray := prog_7_method_38_code
def yX5_known : MethodName := ⟨RX5, "known", "(I)I"⟩
abbrev cX5_alike : ByteArray := prog_7_method_39_code
def yX5_alike : MethodName := ⟨RX5, "alike", "(I)I"⟩
abbrev cX5_viewOf : ByteArray := prog_7_method_40_code
def yX5_viewOf : MethodName := ⟨RX5, "viewOf", "(II)I"⟩
abbrev cX5_partOf : ByteArray := prog_7_method_41_code
def yX5_partOf : MethodName := ⟨RX5, "partOf", "(III)I"⟩
abbrev cX5_viewsWith : ByteArray := prog_7_method_42_code
def yX5_viewsWith : MethodName := ⟨RX5, "viewsWith", "(IZ)I"⟩
abbrev cX5_writerOf : ByteArray := prog_7_method_43_code
def yX5_writerOf : MethodName := ⟨RX5, "writerOf", "(II)I"⟩
abbrev cX5_letterAt : ByteArray := prog_7_method_44_code
def yX5_letterAt : MethodName := ⟨RX5, "letterAt", "(I)I"⟩
abbrev cX5_letterOf : ByteArray := prog_7_method_45_code
def yX5_letterOf : MethodName := ⟨RX5, "letterOf", "(II)I"⟩
abbrev cX5_lacking : ByteArray := prog_7_method_46_code
def yX5_lacking : MethodName := ⟨RX5, "lacking", "(III)I"⟩
abbrev cX5_lacks : ByteArray := prog_7_method_47_code
def yX5_lacks : MethodName := ⟨RX5, "lacks", "(III)I"⟩
abbrev cX5_first : ByteArray := prog_7_method_48_code
def yX5_first : MethodName := ⟨RX5, "first", "()I"⟩
abbrev cX5_whole : ByteArray := prog_7_method_49_code
def yX5_whole : MethodName := ⟨RX5, "whole", "()I"⟩
abbrev cX5_seen : ByteArray := prog_7_method_50_code
def yX5_seen : MethodName := ⟨RX5, "seen", "()I"⟩
abbrev cX5_following : ByteArray := prog_7_method_51_code
def yX5_following : MethodName := ⟨RX5, "following", "(I)I"⟩
abbrev cX5_rounds : ByteArray := prog_7_method_52_code
def yX5_rounds : MethodName := ⟨RX5, "rounds", "()I"⟩
abbrev cX5_would : ByteArray := prog_7_method_53_code
def yX5_would : MethodName := ⟨RX5, "would", "(II)I"⟩
abbrev cX5_latest : ByteArray := prog_7_method_54_code
def yX5_latest : MethodName := ⟨RX5, "latest", "(I)I"⟩
abbrev cX5_count : ByteArray := prog_7_method_55_code
def yX5_count : MethodName := ⟨RX5, "count", "(I)I"⟩
abbrev cX5_undo : ByteArray := prog_7_method_56_code
def yX5_undo : MethodName := ⟨RX5, "undo", "()I"⟩
abbrev cX5_type : ByteArray := prog_7_method_57_code
def yX5_type : MethodName := ⟨RX5, "type", "(I)I"⟩
abbrev cX5_clearText : ByteArray := prog_7_method_58_code
def yX5_clearText : MethodName := ⟨RX5, "clearText", "()I"⟩
abbrev cX5_isAt : ByteArray := prog_7_method_59_code
def yX5_isAt : MethodName := ⟨RX5, "isAt", "(II)Z"⟩
abbrev cX5_sign : ByteArray := prog_7_method_60_code
def yX5_sign : MethodName := ⟨RX5, "sign", "(I)Z"⟩
abbrev cX5_number : ByteArray := prog_7_method_61_code
def yX5_number : MethodName := ⟨RX5, "number", "(I)Z"⟩
abbrev cX5_numbersOf : ByteArray := prog_7_method_62_code
def yX5_numbersOf : MethodName := ⟨RX5, "numbersOf", "(I)I"⟩
abbrev cX5_reads : ByteArray := prog_7_method_63_code
def yX5_reads : MethodName := ⟨RX5, "reads", "()Z"⟩
abbrev cX5_calls : ByteArray := prog_7_method_64_code
def yX5_calls : MethodName := ⟨RX5, "calls", "()I"⟩
abbrev cX5_plays : ByteArray := prog_7_method_65_code
def yX5_plays : MethodName := ⟨RX5, "plays", "()Z"⟩
abbrev cX5_fault : ByteArray := prog_7_method_66_code
def yX5_fault : MethodName := ⟨RX5, "fault", "(I)I"⟩
abbrev cX5_play : ByteArray := prog_7_method_67_code
def yX5_play : MethodName := ⟨RX5, "play", "()I"⟩
def RJ6 : String := "java/lang/Integer"
def TJ6 : u_T := fun k => match k with
  | _ => ("", "", "", false)
def tyJ6 : Nat → FieldType := fun k => match k with
  | _ => .int
abbrev wsJ60 : List Cond := u_ws RJ6 TJ6 0
theorem nmJ6 : ∀ a, a < 0 → ∀ b, b < 0 → a ≠ b → (TJ6 a).2.1 ≠ (TJ6 b).2.1 := by decide +kernel
theorem tyJ6_ok : ∀ k, k < 0 → parseFieldDescriptor (TJ6 k).2.2.1 = some (tyJ6 k) := by decide +kernel
abbrev cJ6_bitCount_0f7a4 : ByteArray := prog_8_method_49_code
def yJ6_bitCount_0f7a4 : MethodName := ⟨RJ6, "bitCount", "(I)I"⟩
def RJ10 : String := "java/lang/System"
def TJ10 : u_T := fun k => match k with
  | _ => ("", "", "", false)
def tyJ10 : Nat → FieldType := fun k => match k with
  | _ => .int
abbrev wsJ100 : List Cond := u_ws RJ10 TJ10 0
theorem nmJ10 : ∀ a, a < 0 → ∀ b, b < 0 → a ≠ b → (TJ10 a).2.1 ≠ (TJ10 b).2.1 := by decide +kernel
theorem tyJ10_ok : ∀ k, k < 0 → parseFieldDescriptor (TJ10 k).2.2.1 = some (tyJ10 k) := by decide +kernel
def RL : String := "PartedSumsLaw"
abbrev cL_law : ByteArray := code
def yL_law : MethodName := ⟨RL, "law", "([I)Z"⟩
abbrev vwCl : List vw_C := [(RX0, TX0, 4), (RX1, TX1, 5), (RX2, TX2, 9), (RX3, TX3, 11), (RX4, TX4, 6), (RX5, TX5, 15)]
end
section
/-! The program as data: methods by number, their code with what the pool says. Written by wip/gen/gen.py. -/
abbrev Ent : Type := Nat × Instr × Nat × Int
abbrev MIt : Type := MethodName × ByteArray × Nat × Option FieldType × Nat × Bool × String × Nat × Nat × Nat × Bool
def miD : MIt := (yL_law, cL_law, 0, none, 0, false, "", 0, 0, 99, false)
def MI_0 : List MIt := [(yX0_init, cX0_init, 1, (none : Option FieldType), 0, false, RX0, 1, 20, 0, true), (yX0_copyFrom, cX0_copyFrom, 2, (none : Option FieldType), 1, false, RX0, 1, 26, 0, false), (yX0_forgetAll, cX0_forgetAll, 2, (none : Option FieldType), 0, false, RX0, 1, 21, 0, false), (yX0_forgetPart, cX0_forgetPart, 2, (none : Option FieldType), 1, false, RX0, 0, 0, 0, false), (yX0_knows, cX0_knows, 2, (some .boolean), 1, false, RX0, 0, 0, 0, false), (yX0_hasGrave, cX0_hasGrave, 2, (some .boolean), 1, false, RX0, 0, 0, 0, false), (yX0_raise, cX0_raise, 4, (none : Option FieldType), 3, false, RX0, 0, 0, 0, false), (yX0_bequeath, cX0_bequeath, 3, (none : Option FieldType), 2, false, RX0, 1, 23, 0, false), (yX0_takeIn, cX0_takeIn, 5, (some .int), 1, false, RX0, 1, 21, 0, false), (yX0_knowsTheSameAs, cX0_knowsTheSameAs, 3, (some .boolean), 1, false, RX0, 0, 0, 0, false), (yX0_allAdded, cX0_allAdded, 3, (some .int), 0, false, RX0, 0, 0, 0, false), (yX0_allTaken, cX0_allTaken, 3, (some .int), 0, false, RX0, 0, 0, 0, false), (yX0_sum, cX0_sum, 1, (some .int), 0, false, RX0, 1, 22, 0, false), (yX0_knownWriters, cX0_knownWriters, 3, (some .int), 0, false, RX0, 1, 21, 0, false), (yX1_init, cX1_init, 1, (none : Option FieldType), 0, false, RX1, 2, 40, 1, true), (yX1_copyFrom, cX1_copyFrom, 2, (none : Option FieldType), 1, false, RX1, 2, 47, 1, false), (yX2_init, cX2_init, 1, (none : Option FieldType), 0, false, RX2, 1, 20, 2, true), (yX2_append, cX2_append, 2, (some .int), 1, false, RX2, 0, 0, 2, false), (yX2_runIn, cX2_runIn, 4, (none : Option FieldType), 1, false, RX2, 5, 110, 2, false), (yX2_noteFault, cX2_noteFault, 4, (none : Option FieldType), 3, false, RX2, 0, 0, 2, false)]
def MI_1 : List MIt := [(yX2_readOrder, cX2_readOrder, 4, (some .boolean), 1, false, RX2, 2, 45, 2, false), (yX2_numbersOf, cX2_numbersOf, 1, (some .int), 1, true, RX2, 0, 0, 2, false), (yX2_readNumber, cX2_readNumber, 4, (some .boolean), 1, false, RX2, 1, 22, 2, false), (yX2_readSign, cX2_readSign, 2, (some .boolean), 1, false, RX2, 0, 0, 2, false), (yX2_doOrder, cX2_doOrder, 2, (some .int), 1, false, RX2, 4, 89, 2, false), (yX3_init, cX3_init, 2, (none : Option FieldType), 0, false, RX3, 3, 60, 3, true), (yX3_copyFrom, cX3_copyFrom, 3, (none : Option FieldType), 1, false, RX3, 3, 68, 3, false), (yX3_hasView, cX3_hasView, 2, (some .boolean), 1, false, RX3, 1, 22, 3, false), (yX3_hasWriter, cX3_hasWriter, 2, (some .boolean), 1, false, RX3, 1, 22, 3, false), (yX3_hasRetired, cX3_hasRetired, 2, (some .boolean), 1, false, RX3, 0, 0, 3, false), (yX3_countViews, cX3_countViews, 1, (some .int), 0, false, RX3, 1, 20, 3, false), (yX3_countActiveWriters, cX3_countActiveWriters, 3, (some .int), 0, false, RX3, 1, 21, 3, false), (yX3_homeOf, cX3_homeOf, 2, (some (.object "PartedSums$Knowledge")), 1, false, RX3, 0, 0, 3, false), (yX3_homeVersion, cX3_homeVersion, 2, (some .int), 1, false, RX3, 1, 21, 3, false), (yX3_writersAtHome, cX3_writersAtHome, 4, (some .int), 1, false, RX3, 1, 21, 3, false), (yX3_viewsThatKnowTheSame, cX3_viewsThatKnowTheSame, 4, (some .int), 1, false, RX3, 2, 43, 3, false), (yX3_viewsUpToDate, cX3_viewsUpToDate, 4, (some .int), 1, false, RX3, 2, 43, 3, false), (yX3_viewsWithGrave, cX3_viewsWithGrave, 4, (some .int), 1, false, RX3, 2, 43, 3, false), (yX3_leastKnown, cX3_leastKnown, 4, (some .int), 1, false, RX3, 2, 43, 3, false), (yX3_bringWriter, cX3_bringWriter, 3, (some .int), 1, false, RX3, 2, 43, 3, false)]
def MI_2 : List MIt := [(yX3_addAmount, cX3_addAmount, 3, (some .int), 2, false, RX3, 2, 43, 3, false), (yX3_takeAmount, cX3_takeAmount, 3, (some .int), 2, false, RX3, 2, 43, 3, false), (yX3_retireWriter, cX3_retireWriter, 3, (some .int), 2, false, RX3, 2, 45, 3, false), (yX3_moveWriter, cX3_moveWriter, 4, (some .int), 2, false, RX3, 2, 43, 3, false), (yX3_copyView, cX3_copyView, 3, (some .int), 1, false, RX3, 2, 47, 3, false), (yX3_dropView, cX3_dropView, 3, (some .int), 1, false, RX3, 2, 44, 3, false), (yX3_mergeViews, cX3_mergeViews, 4, (some .int), 2, false, RX3, 2, 45, 3, false), (yX3_postLetter, cX3_postLetter, 5, (some .int), 3, false, RX3, 2, 47, 3, false), (yX3_insertLetter, cX3_insertLetter, 4, (some (.object "PartedSums$Letter")), 1, false, RX3, 0, 0, 3, false), (yX3_passTicks, cX3_passTicks, 4, (some .int), 1, false, RX3, 3, 66, 3, false), (yX3_receive, cX3_receive, 2, (none : Option FieldType), 1, false, RX3, 2, 45, 3, false), (yX3_removeLetters, cX3_removeLetters, 4, (none : Option FieldType), 1, false, RX3, 0, 0, 3, false), (yX3_mergeUntilAllAgree, cX3_mergeUntilAllAgree, 4, (some .int), 0, false, RX3, 3, 66, 3, false), (yX3_viewBehind, cX3_viewBehind, 4, (some .int), 1, false, RX3, 2, 43, 3, false), (yX4_init, cX4_init, 2, (none : Option FieldType), 0, false, RX4, 4, 81, 4, true), (yX4_writer, cX4_writer, 2, (some .int), 1, false, RX4, 5, 110, 4, false), (yX4_add, cX4_add, 3, (some .int), 2, false, RX4, 5, 110, 4, false), (yX4_take, cX4_take, 3, (some .int), 2, false, RX4, 5, 110, 4, false), (yX4_retire, cX4_retire, 3, (some .int), 2, false, RX4, 5, 110, 4, false), (yX4_move, cX4_move, 3, (some .int), 2, false, RX4, 5, 110, 4, false)]
def MI_3 : List MIt := [(yX4_view, cX4_view, 2, (some .int), 1, false, RX4, 5, 110, 4, false), (yX4_drop, cX4_drop, 2, (some .int), 1, false, RX4, 5, 110, 4, false), (yX4_merge, cX4_merge, 3, (some .int), 2, false, RX4, 5, 110, 4, false), (yX4_post, cX4_post, 4, (some .int), 3, false, RX4, 5, 110, 4, false), (yX4_tick, cX4_tick, 2, (some .int), 1, false, RX4, 5, 110, 4, false), (yX4_viewOf, cX4_viewOf, 4, (some .int), 2, false, RX4, 3, 66, 4, false), (yX4_partOf, cX4_partOf, 5, (some .int), 3, false, RX4, 2, 43, 4, false), (yX4_writerOf, cX4_writerOf, 4, (some .int), 2, false, RX4, 3, 66, 4, false), (yX4_letterOf, cX4_letterOf, 4, (some .int), 2, false, RX4, 2, 42, 4, false), (yX4_lacks, cX4_lacks, 5, (some .int), 3, false, RX4, 3, 69, 4, false), (yX4_whole, cX4_whole, 2, (some .int), 0, false, RX4, 2, 45, 4, false), (yX4_seen, cX4_seen, 3, (some .int), 0, false, RX4, 3, 66, 4, false), (yX4_rounds, cX4_rounds, 1, (some .int), 0, false, RX4, 5, 110, 4, false), (yX4_would, cX4_would, 5, (some .int), 2, false, RX4, 2, 47, 4, false), (yX4_latest, cX4_latest, 6, (some .int), 1, false, RX4, 4, 92, 4, false), (yX4_count, cX4_count, 2, (some .int), 1, false, RX4, 2, 43, 4, false), (yX4_undo, cX4_undo, 2, (some .int), 0, false, RX4, 0, 0, 4, false), (yX4_type, cX4_type, 2, (some .int), 1, false, RX4, 1, 22, 4, false), (yX4_clearText, cX4_clearText, 2, (some .int), 0, false, RX4, 0, 0, 4, false), (yX4_fault, cX4_fault, 2, (some .int), 1, false, RX4, 6, 133, 4, false)]
def MI_4 : List MIt := [(yX4_play, cX4_play, 1, (some .int), 0, false, RX4, 6, 133, 4, false), (yX4_freshTrial, cX4_freshTrial, 1, (some (.object "PartedSums$State")), 0, false, RX4, 4, 90, 4, false), (yX4_settle, cX4_settle, 4, (some .int), 1, false, RX4, 2, 42, 4, false), (yX4_tryMerging, cX4_tryMerging, 3, (some .int), 2, false, RX4, 2, 47, 4, false), (yX4_partsLackedOfAll, cX4_partsLackedOfAll, 4, (some .int), 1, false, RX4, 3, 69, 4, false), (yX4_isWithin, cX4_isWithin, 3, (some .boolean), 3, true, RX4, 0, 0, 4, false), (yX4_isError, cX4_isError, 1, (some .boolean), 1, true, RX4, 1, 22, 4, false), (yX5_init, cX5_init, 1, (none : Option FieldType), 0, false, RX5, 1, 20, 5, true), (yX5_in, cX5_in, 3, (some .boolean), 3, true, RX5, 0, 0, 5, false), (yX5_copies, cX5_copies, 3, (none : Option FieldType), 2, true, RX5, 0, 0, 5, false), (yX5_changes, cX5_changes, 2, (none : Option FieldType), 0, false, RX5, 0, 0, 5, false), (yX5_knows, cX5_knows, 1, (some .int), 1, true, RX5, 0, 0, 5, false), (yX5_knew, cX5_knew, 1, (some .int), 1, true, RX5, 0, 0, 5, false), (yX5_part, cX5_part, 2, (some .int), 2, true, RX5, 0, 0, 5, false), (yX5_isView, cX5_isView, 2, (some .boolean), 1, false, RX5, 1, 22, 5, false), (yX5_isWriter, cX5_isWriter, 2, (some .boolean), 1, false, RX5, 0, 0, 5, false), (yX5_ofWriter, cX5_ofWriter, 3, (some .int), 2, false, RX5, 0, 0, 5, false), (yX5_isRetired, cX5_isRetired, 2, (some .boolean), 1, false, RX5, 1, 22, 5, false), (yX5_sum, cX5_sum, 6, (some .int), 2, false, RX5, 1, 21, 5, false), (yX5_ones, cX5_ones, 3, (some .int), 1, true, RX5, 0, 0, 5, false)]
def MI_5 : List MIt := [(yX5_views, cX5_views, 3, (some .int), 0, false, RX5, 2, 43, 5, false), (yX5_active, cX5_active, 3, (some .int), 0, false, RX5, 2, 43, 5, false), (yX5_takesIn, cX5_takesIn, 9, (some .int), 2, false, RX5, 1, 21, 5, false), (yX5_forgets, cX5_forgets, 2, (none : Option FieldType), 1, false, RX5, 0, 0, 5, false), (yX5_isSame, cX5_isSame, 5, (some .boolean), 2, false, RX5, 1, 21, 5, false), (yX5_writer, cX5_writer, 3, (some .int), 1, false, RX5, 2, 43, 5, false), (yX5_ownPart, cX5_ownPart, 2, (some .int), 1, false, RX5, 1, 22, 5, false), (yX5_writes, cX5_writes, 5, (some .int), 3, false, RX5, 2, 46, 5, false), (yX5_add, cX5_add, 3, (some .int), 2, false, RX5, 3, 70, 5, false), (yX5_take, cX5_take, 3, (some .int), 2, false, RX5, 3, 70, 5, false), (yX5_retire, cX5_retire, 5, (some .int), 2, false, RX5, 3, 65, 5, false), (yX5_move, cX5_move, 4, (some .int), 2, false, RX5, 2, 43, 5, false), (yX5_lays, cX5_lays, 4, (none : Option FieldType), 2, false, RX5, 0, 0, 5, false), (yX5_view, cX5_view, 3, (some .int), 1, false, RX5, 2, 43, 5, false), (yX5_homers, cX5_homers, 4, (some .int), 1, false, RX5, 2, 43, 5, false), (yX5_drop, cX5_drop, 2, (some .int), 1, false, RX5, 3, 66, 5, false), (yX5_merge, cX5_merge, 4, (some .int), 2, false, RX5, 2, 49, 5, false), (yX5_ofLetter, cX5_ofLetter, 3, (some .int), 2, false, RX5, 0, 0, 5, false), (yX5_post, cX5_post, 6, (some .int), 3, false, RX5, 2, 43, 5, false), (yX5_isLost, cX5_isLost, 2, (some .boolean), 1, false, RX5, 1, 22, 5, false)]
def MI_6 : List MIt := [(yX5_comes, cX5_comes, 4, (some .boolean), 1, false, RX5, 2, 49, 5, false), (yX5_goes, cX5_goes, 3, (some .int), 0, false, RX5, 3, 72, 5, false), (yX5_tick, cX5_tick, 4, (some .int), 1, false, RX5, 4, 94, 5, false), (yX5_known, cX5_known, 4, (some .int), 1, false, RX5, 1, 21, 5, false), (yX5_alike, cX5_alike, 4, (some .int), 1, false, RX5, 2, 45, 5, false), (yX5_viewOf, cX5_viewOf, 3, (some .int), 2, false, RX5, 3, 68, 5, false), (yX5_partOf, cX5_partOf, 5, (some .int), 3, false, RX5, 2, 43, 5, false), (yX5_viewsWith, cX5_viewsWith, 6, (some .int), 2, false, RX5, 2, 43, 5, false), (yX5_writerOf, cX5_writerOf, 3, (some .int), 2, false, RX5, 3, 68, 5, false), (yX5_letterAt, cX5_letterAt, 6, (some .int), 1, false, RX5, 1, 22, 5, false), (yX5_letterOf, cX5_letterOf, 4, (some .int), 2, false, RX5, 2, 47, 5, false), (yX5_lacking, cX5_lacking, 7, (some .int), 3, false, RX5, 2, 49, 5, false), (yX5_lacks, cX5_lacks, 4, (some .int), 3, false, RX5, 3, 75, 5, false), (yX5_first, cX5_first, 2, (some .int), 0, false, RX5, 2, 43, 5, false), (yX5_whole, cX5_whole, 4, (some .int), 0, false, RX5, 3, 64, 5, false), (yX5_seen, cX5_seen, 5, (some .int), 0, false, RX5, 3, 64, 5, false), (yX5_following, cX5_following, 3, (some .int), 1, false, RX5, 2, 43, 5, false), (yX5_rounds, cX5_rounds, 3, (some .int), 0, false, RX5, 3, 68, 5, false), (yX5_would, cX5_would, 5, (some .int), 2, false, RX5, 4, 94, 5, false), (yX5_latest, cX5_latest, 7, (some .int), 1, false, RX5, 3, 75, 5, false)]
def MI_7 : List MIt := [(yX5_count, cX5_count, 2, (some .int), 1, false, RX5, 3, 65, 5, false), (yX5_undo, cX5_undo, 2, (some .int), 0, false, RX5, 0, 0, 5, false), (yX5_type, cX5_type, 2, (some .int), 1, false, RX5, 1, 22, 5, false), (yX5_clearText, cX5_clearText, 2, (some .int), 0, false, RX5, 0, 0, 5, false), (yX5_isAt, cX5_isAt, 3, (some .boolean), 2, false, RX5, 1, 22, 5, false), (yX5_sign, cX5_sign, 3, (some .boolean), 1, false, RX5, 2, 44, 5, false), (yX5_number, cX5_number, 3, (some .boolean), 1, false, RX5, 2, 44, 5, false), (yX5_numbersOf, cX5_numbersOf, 1, (some .int), 1, true, RX5, 0, 0, 5, false), (yX5_reads, cX5_reads, 4, (some .boolean), 0, false, RX5, 3, 66, 5, false), (yX5_calls, cX5_calls, 1, (some .int), 0, false, RX5, 5, 117, 5, false), (yX5_plays, cX5_plays, 4, (some .boolean), 0, false, RX5, 6, 137, 5, false), (yX5_fault, cX5_fault, 3, (some .int), 1, false, RX5, 7, 160, 5, false), (yX5_play, cX5_play, 2, (some .int), 0, false, RX5, 7, 160, 5, false), (yJ6_bitCount_0f7a4, cJ6_bitCount_0f7a4, 1, (some .int), 1, true, RJ6, 0, 0, 99, false), (yL_law, cL_law, 4, (some .boolean), 1, true, RL, 8, 182, 99, false)]
def MI : List MIt := MI_0 ++ (MI_1 ++ (MI_2 ++ (MI_3 ++ (MI_4 ++ (MI_5 ++ (MI_6 ++ (MI_7)))))))
def mi (y : Nat) : MIt := MI.getD y miD
def mName (y : Nat) : MethodName := (mi y).1
def mCode (y : Nat) : ByteArray := (mi y).2.1
def mMaxL (y : Nat) : Nat := (mi y).2.2.1
def mRet (y : Nat) : Option FieldType := (mi y).2.2.2.1
def mArgs (y : Nat) : Nat := (mi y).2.2.2.2.1
def mStat (y : Nat) : Bool := (mi y).2.2.2.2.2.1
def mOwn (y : Nat) : String := (mi y).2.2.2.2.2.2.1
def mFr (y : Nat) : Nat := (mi y).2.2.2.2.2.2.2.1
def mLo (y : Nat) : Nat := (mi y).2.2.2.2.2.2.2.2.1
def mCi (y : Nat) : Nat := (mi y).2.2.2.2.2.2.2.2.2.1
def mIni (y : Nat) : Bool := (mi y).2.2.2.2.2.2.2.2.2.2
def NM : Nat := 155
def K0 : List Ent := [(0, .aload_n 0, 0, 0), (1, .invokespecial 3, 1001, 0), (4, .aload_n 0, 0, 0), (5, .bipush 8, 0, 0), (7, .newarray .int, 0, 0), (9, .putfield 9, 0, 0), (12, .aload_n 0, 0, 0), (13, .bipush 8, 0, 0), (15, .newarray .int, 0, 0), (17, .putfield 15, 0, 1), (20, .aload_n 0, 0, 0), (21, .bipush 8, 0, 0), (23, .newarray .int, 0, 0), (25, .putfield 18, 0, 2), (28, .aload_n 0, 0, 0), (29, .iconst 0, 0, 0), (30, .putfield 21, 0, 3), (33, .return_, 0, 0)]
def K1 : List Ent := [(0, .aload_n 1, 0, 0), (1, .getfield 9, 0, 0), (4, .iconst 0, 0, 0), (5, .aload_n 0, 0, 0), (6, .getfield 9, 0, 0), (9, .iconst 0, 0, 0), (10, .bipush 8, 0, 0), (12, .invokestatic 25, 1000, 0), (15, .aload_n 1, 0, 0), (16, .getfield 15, 0, 1), (19, .iconst 0, 0, 0), (20, .aload_n 0, 0, 0), (21, .getfield 15, 0, 1), (24, .iconst 0, 0, 0), (25, .bipush 8, 0, 0), (27, .invokestatic 25, 1000, 0), (30, .aload_n 1, 0, 0), (31, .getfield 18, 0, 2), (34, .iconst 0, 0, 0), (35, .aload_n 0, 0, 0), (36, .getfield 18, 0, 2), (39, .iconst 0, 0, 0), (40, .bipush 8, 0, 0), (42, .invokestatic 25, 1000, 0), (45, .aload_n 0, 0, 0), (46, .aload_n 1, 0, 0), (47, .getfield 21, 0, 3), (50, .putfield 21, 0, 3), (53, .return_, 0, 0)]
def K2 : List Ent := [(0, .iconst 0, 0, 0), (1, .istore_n 1, 0, 0), (2, .iload_n 1, 0, 0), (3, .bipush 8, 0, 0), (5, .if_icmp .ge 14, 0, 0), (8, .aload_n 0, 0, 0), (9, .iload_n 1, 0, 0), (10, .invokevirtual 31, 3, 0), (13, .iinc 1 1, 0, 0), (16, .goto (-14), 0, 0), (19, .aload_n 0, 0, 0), (20, .iconst 0, 0, 0), (21, .putfield 21, 0, 3), (24, .return_, 0, 0)]
def K3 : List Ent := [(0, .aload_n 0, 0, 0), (1, .getfield 9, 0, 0), (4, .iload_n 1, 0, 0), (5, .iconst 0, 0, 0), (6, .iastore, 0, 0), (7, .aload_n 0, 0, 0), (8, .getfield 15, 0, 1), (11, .iload_n 1, 0, 0), (12, .iconst 0, 0, 0), (13, .iastore, 0, 0), (14, .aload_n 0, 0, 0), (15, .getfield 18, 0, 2), (18, .iload_n 1, 0, 0), (19, .iconst 0, 0, 0), (20, .iastore, 0, 0), (21, .return_, 0, 0)]
def K4 : List Ent := [(0, .aload_n 0, 0, 0), (1, .getfield 9, 0, 0), (4, .iload_n 1, 0, 0), (5, .iaload, 0, 0), (6, .ifCond .le 7, 0, 0), (9, .iconst 1, 0, 0), (10, .goto 4, 0, 0), (13, .iconst 0, 0, 0), (14, .ireturn, 0, 0)]
def K5 : List Ent := [(0, .aload_n 0, 0, 0), (1, .getfield 21, 0, 3), (4, .iconst 1, 0, 0), (5, .iload_n 1, 0, 0), (6, .ishl, 0, 0), (7, .iand, 0, 0), (8, .ifCond .eq 7, 0, 0), (11, .iconst 1, 0, 0), (12, .goto 4, 0, 0), (15, .iconst 0, 0, 0), (16, .ireturn, 0, 0)]
def K6 : List Ent := [(0, .aload_n 0, 0, 0), (1, .getfield 9, 0, 0), (4, .iload_n 1, 0, 0), (5, .dup2, 0, 0), (6, .iaload, 0, 0), (7, .iconst 1, 0, 0), (8, .iadd, 0, 0), (9, .iastore, 0, 0), (10, .aload_n 0, 0, 0), (11, .getfield 15, 0, 1), (14, .iload_n 1, 0, 0), (15, .dup2, 0, 0), (16, .iaload, 0, 0), (17, .iload_n 2, 0, 0), (18, .iadd, 0, 0), (19, .iastore, 0, 0), (20, .aload_n 0, 0, 0), (21, .getfield 18, 0, 2), (24, .iload_n 1, 0, 0), (25, .dup2, 0, 0), (26, .iaload, 0, 0), (27, .iload_n 3, 0, 0), (28, .iadd, 0, 0), (29, .iastore, 0, 0), (30, .return_, 0, 0)]
def K7 : List Ent := [(0, .aload_n 0, 0, 0), (1, .iload_n 2, 0, 0), (2, .aload_n 0, 0, 0), (3, .getfield 15, 0, 1), (6, .iload_n 1, 0, 0), (7, .iaload, 0, 0), (8, .aload_n 0, 0, 0), (9, .getfield 18, 0, 2), (12, .iload_n 1, 0, 0), (13, .iaload, 0, 0), (14, .invokevirtual 35, 6, 0), (17, .aload_n 0, 0, 0), (18, .iload_n 1, 0, 0), (19, .invokevirtual 31, 3, 0), (22, .aload_n 0, 0, 0), (23, .dup, 0, 0), (24, .getfield 21, 0, 3), (27, .iconst 1, 0, 0), (28, .iload_n 1, 0, 0), (29, .ishl, 0, 0), (30, .ior, 0, 0), (31, .putfield 21, 0, 3), (34, .return_, 0, 0)]
def K8 : List Ent := [(0, .aload_n 0, 0, 0), (1, .dup, 0, 0), (2, .getfield 21, 0, 3), (5, .aload_n 1, 0, 0), (6, .getfield 21, 0, 3), (9, .ior, 0, 0), (10, .putfield 21, 0, 3), (13, .iconst 0, 0, 0), (14, .istore_n 2, 0, 0), (15, .iconst 0, 0, 0), (16, .istore_n 3, 0, 0), (17, .iload_n 3, 0, 0), (18, .bipush 8, 0, 0), (20, .if_icmp .ge 94, 0, 0), (23, .aload_n 0, 0, 0), (24, .getfield 9, 0, 0), (27, .iload_n 3, 0, 0), (28, .iaload, 0, 0), (29, .istore 4, 0, 0), (31, .aload_n 0, 0, 0), (32, .iload_n 3, 0, 0), (33, .invokevirtual 39, 5, 0), (36, .ifCond .eq 11, 0, 0), (39, .aload_n 0, 0, 0), (40, .iload_n 3, 0, 0), (41, .invokevirtual 31, 3, 0), (44, .goto 50, 0, 0), (47, .aload_n 1, 0, 0), (48, .getfield 9, 0, 0), (51, .iload_n 3, 0, 0), (52, .iaload, 0, 0), (53, .iload 4, 0, 0), (55, .if_icmp .le 39, 0, 0), (58, .aload_n 0, 0, 0), (59, .getfield 9, 0, 0), (62, .iload_n 3, 0, 0), (63, .aload_n 1, 0, 0), (64, .getfield 9, 0, 0), (67, .iload_n 3, 0, 0), (68, .iaload, 0, 0), (69, .iastore, 0, 0), (70, .aload_n 0, 0, 0), (71, .getfield 15, 0, 1), (74, .iload_n 3, 0, 0), (75, .aload_n 1, 0, 0), (76, .getfield 15, 0, 1), (79, .iload_n 3, 0, 0), (80, .iaload, 0, 0), (81, .iastore, 0, 0), (82, .aload_n 0, 0, 0), (83, .getfield 18, 0, 2), (86, .iload_n 3, 0, 0), (87, .aload_n 1, 0, 0), (88, .getfield 18, 0, 2), (91, .iload_n 3, 0, 0), (92, .iaload, 0, 0), (93, .iastore, 0, 0), (94, .aload_n 0, 0, 0), (95, .getfield 9, 0, 0), (98, .iload_n 3, 0, 0), (99, .iaload, 0, 0), (100, .iload 4, 0, 0), (102, .if_icmp .eq 6, 0, 0), (105, .iinc 2 1, 0, 0), (108, .iinc 3 1, 0, 0), (111, .goto (-94), 0, 0), (114, .iload_n 2, 0, 0), (115, .ireturn, 0, 0)]
def K9 : List Ent := [(0, .iconst 0, 0, 0), (1, .istore_n 2, 0, 0), (2, .iload_n 2, 0, 0), (3, .bipush 8, 0, 0), (5, .if_icmp .ge 26, 0, 0), (8, .aload_n 0, 0, 0), (9, .getfield 9, 0, 0), (12, .iload_n 2, 0, 0), (13, .iaload, 0, 0), (14, .aload_n 1, 0, 0), (15, .getfield 9, 0, 0), (18, .iload_n 2, 0, 0), (19, .iaload, 0, 0), (20, .if_icmp .eq 5, 0, 0), (23, .iconst 0, 0, 0), (24, .ireturn, 0, 0), (25, .iinc 2 1, 0, 0), (28, .goto (-26), 0, 0), (31, .aload_n 0, 0, 0), (32, .getfield 21, 0, 3), (35, .aload_n 1, 0, 0), (36, .getfield 21, 0, 3), (39, .if_icmp .ne 7, 0, 0), (42, .iconst 1, 0, 0), (43, .goto 4, 0, 0), (46, .iconst 0, 0, 0), (47, .ireturn, 0, 0)]
def K10 : List Ent := [(0, .iconst 0, 0, 0), (1, .istore_n 1, 0, 0), (2, .iconst 0, 0, 0), (3, .istore_n 2, 0, 0), (4, .iload_n 2, 0, 0), (5, .bipush 8, 0, 0), (7, .if_icmp .ge 18, 0, 0), (10, .iload_n 1, 0, 0), (11, .aload_n 0, 0, 0), (12, .getfield 15, 0, 1), (15, .iload_n 2, 0, 0), (16, .iaload, 0, 0), (17, .iadd, 0, 0), (18, .istore_n 1, 0, 0), (19, .iinc 2 1, 0, 0), (22, .goto (-18), 0, 0), (25, .iload_n 1, 0, 0), (26, .ireturn, 0, 0)]
def K11 : List Ent := [(0, .iconst 0, 0, 0), (1, .istore_n 1, 0, 0), (2, .iconst 0, 0, 0), (3, .istore_n 2, 0, 0), (4, .iload_n 2, 0, 0), (5, .bipush 8, 0, 0), (7, .if_icmp .ge 18, 0, 0), (10, .iload_n 1, 0, 0), (11, .aload_n 0, 0, 0), (12, .getfield 18, 0, 2), (15, .iload_n 2, 0, 0), (16, .iaload, 0, 0), (17, .iadd, 0, 0), (18, .istore_n 1, 0, 0), (19, .iinc 2 1, 0, 0), (22, .goto (-18), 0, 0), (25, .iload_n 1, 0, 0), (26, .ireturn, 0, 0)]
def K12 : List Ent := [(0, .aload_n 0, 0, 0), (1, .invokevirtual 43, 10, 0), (4, .aload_n 0, 0, 0), (5, .invokevirtual 47, 11, 0), (8, .isub, 0, 0), (9, .ireturn, 0, 0)]
def K13 : List Ent := [(0, .iconst 0, 0, 0), (1, .istore_n 1, 0, 0), (2, .iconst 0, 0, 0), (3, .istore_n 2, 0, 0), (4, .iload_n 2, 0, 0), (5, .bipush 8, 0, 0), (7, .if_icmp .ge 23, 0, 0), (10, .aload_n 0, 0, 0), (11, .iload_n 2, 0, 0), (12, .invokevirtual 50, 4, 0), (15, .ifCond .eq 9, 0, 0), (18, .iload_n 1, 0, 0), (19, .iconst 1, 0, 0), (20, .iload_n 2, 0, 0), (21, .ishl, 0, 0), (22, .ior, 0, 0), (23, .istore_n 1, 0, 0), (24, .iinc 2 1, 0, 0), (27, .goto (-23), 0, 0), (30, .iload_n 1, 0, 0), (31, .ireturn, 0, 0)]
def K14 : List Ent := [(0, .aload_n 0, 0, 0), (1, .invokespecial 1, 1001, 0), (4, .aload_n 0, 0, 0), (5, .iconst 0, 0, 0), (6, .putfield 7, 1, 0), (9, .aload_n 0, 0, 0), (10, .iconst 0, 0, 0), (11, .putfield 13, 1, 1), (14, .aload_n 0, 0, 0), (15, .iconst 0, 0, 0), (16, .putfield 16, 1, 2), (19, .aload_n 0, 0, 0), (20, .iconst 0, 0, 0), (21, .putfield 19, 1, 3), (24, .aload_n 0, 0, 0), (25, .new 23, 0, 0), (28, .dup, 0, 0), (29, .invokespecial 25, 0, 1), (32, .putfield 26, 1, 4), (35, .return_, 0, 0)]
def K15 : List Ent := [(0, .aload_n 0, 0, 0), (1, .aload_n 1, 0, 0), (2, .getfield 7, 1, 0), (5, .putfield 7, 1, 0), (8, .aload_n 0, 0, 0), (9, .aload_n 1, 0, 0), (10, .getfield 13, 1, 1), (13, .putfield 13, 1, 1), (16, .aload_n 0, 0, 0), (17, .aload_n 1, 0, 0), (18, .getfield 16, 1, 2), (21, .putfield 16, 1, 2), (24, .aload_n 0, 0, 0), (25, .aload_n 1, 0, 0), (26, .getfield 19, 1, 3), (29, .putfield 19, 1, 3), (32, .aload_n 0, 0, 0), (33, .getfield 26, 1, 4), (36, .aload_n 1, 0, 0), (37, .getfield 26, 1, 4), (40, .invokevirtual 30, 1, 0), (43, .return_, 0, 0)]
def K16 : List Ent := [(0, .aload_n 0, 0, 0), (1, .invokespecial 3, 1001, 0), (4, .aload_n 0, 0, 0), (5, .bipush 60, 0, 0), (7, .newarray .int, 0, 0), (9, .putfield 9, 2, 0), (12, .aload_n 0, 0, 0), (13, .iconst 0, 0, 0), (14, .putfield 15, 2, 1), (17, .aload_n 0, 0, 0), (18, .iconst 0, 0, 0), (19, .putfield 19, 2, 2), (22, .aload_n 0, 0, 0), (23, .iconst (-1), 0, 0), (24, .putfield 22, 2, 3), (27, .aload_n 0, 0, 0), (28, .iconst 0, 0, 0), (29, .putfield 25, 2, 4), (32, .aload_n 0, 0, 0), (33, .iconst 0, 0, 0), (34, .putfield 28, 2, 5), (37, .aload_n 0, 0, 0), (38, .iconst 0, 0, 0), (39, .putfield 31, 2, 6), (42, .aload_n 0, 0, 0), (43, .iconst 3, 0, 0), (44, .newarray .int, 0, 0), (46, .putfield 34, 2, 7), (49, .aload_n 0, 0, 0), (50, .iconst 0, 0, 0), (51, .putfield 37, 2, 8), (54, .return_, 0, 0)]
def K17 : List Ent := [(0, .aload_n 0, 0, 0), (1, .getfield 15, 2, 1), (4, .bipush 60, 0, 0), (6, .if_icmp .lt 6, 0, 0), (9, .ldc 40, 0, -2000000003), (11, .ireturn, 0, 0), (12, .aload_n 0, 0, 0), (13, .getfield 9, 2, 0), (16, .aload_n 0, 0, 0), (17, .getfield 15, 2, 1), (20, .iload_n 1, 0, 0), (21, .iastore, 0, 0), (22, .aload_n 0, 0, 0), (23, .dup, 0, 0), (24, .getfield 15, 2, 1), (27, .iconst 1, 0, 0), (28, .iadd, 0, 0), (29, .putfield 15, 2, 1), (32, .aload_n 0, 0, 0), (33, .getfield 15, 2, 1), (36, .ireturn, 0, 0)]
def K18 : List Ent := [(0, .aload_n 0, 0, 0), (1, .iconst (-1), 0, 0), (2, .putfield 22, 2, 3), (5, .iconst 0, 0, 0), (6, .istore_n 2, 0, 0), (7, .aload_n 0, 0, 0), (8, .iconst 0, 0, 0), (9, .putfield 19, 2, 2), (12, .aload_n 0, 0, 0), (13, .getfield 19, 2, 2), (16, .bipush 60, 0, 0), (18, .if_icmp .ge 71, 0, 0), (21, .iload_n 2, 0, 0), (22, .aload_n 0, 0, 0), (23, .getfield 15, 2, 1), (26, .if_icmp .ge 63, 0, 0), (29, .aload_n 0, 0, 0), (30, .iload_n 2, 0, 0), (31, .invokevirtual 41, 20, 0), (34, .ifCond .ne 16, 0, 0), (37, .aload_n 0, 0, 0), (38, .iload_n 2, 0, 0), (39, .iconst 1, 0, 0), (40, .aload_n 0, 0, 0), (41, .getfield 37, 2, 8), (44, .iload_n 2, 0, 0), (45, .isub, 0, 0), (46, .invokevirtual 45, 19, 0), (49, .return_, 0, 0), (50, .aload_n 0, 0, 0), (51, .aload_n 1, 0, 0), (52, .invokevirtual 49, 24, 0), (55, .istore_n 3, 0, 0), (56, .iload_n 3, 0, 0), (57, .invokestatic 53, 86, 1), (60, .ifCond .eq 11, 0, 0), (63, .aload_n 0, 0, 0), (64, .iload_n 2, 0, 0), (65, .iconst 2, 0, 0), (66, .iload_n 3, 0, 0), (67, .invokevirtual 45, 19, 0), (70, .return_, 0, 0), (71, .aload_n 0, 0, 0), (72, .getfield 37, 2, 8), (75, .istore_n 2, 0, 0), (76, .aload_n 0, 0, 0), (77, .dup, 0, 0), (78, .getfield 19, 2, 2), (81, .iconst 1, 0, 0), (82, .iadd, 0, 0), (83, .putfield 19, 2, 2), (86, .goto (-74), 0, 0), (89, .return_, 0, 0)]
def K19 : List Ent := [(0, .aload_n 0, 0, 0), (1, .iload_n 1, 0, 0), (2, .putfield 22, 2, 3), (5, .aload_n 0, 0, 0), (6, .iload_n 2, 0, 0), (7, .putfield 25, 2, 4), (10, .aload_n 0, 0, 0), (11, .iload_n 3, 0, 0), (12, .putfield 28, 2, 5), (15, .return_, 0, 0)]
def K20 : List Ent := [(0, .aload_n 0, 0, 0), (1, .iload_n 1, 0, 0), (2, .putfield 37, 2, 8), (5, .aload_n 0, 0, 0), (6, .aload_n 0, 0, 0), (7, .getfield 9, 2, 0), (10, .iload_n 1, 0, 0), (11, .iaload, 0, 0), (12, .putfield 31, 2, 6), (15, .aload_n 0, 0, 0), (16, .getfield 31, 2, 6), (19, .invokestatic 56, 21, 0), (22, .istore_n 2, 0, 0), (23, .iload_n 2, 0, 0), (24, .ifCond .ne 5, 0, 0), (27, .iconst 0, 0, 0), (28, .ireturn, 0, 0), (29, .aload_n 0, 0, 0), (30, .dup, 0, 0), (31, .getfield 37, 2, 8), (34, .iconst 1, 0, 0), (35, .iadd, 0, 0), (36, .putfield 37, 2, 8), (39, .iconst 0, 0, 0), (40, .istore_n 3, 0, 0), (41, .iload_n 3, 0, 0), (42, .iload_n 2, 0, 0), (43, .if_icmp .ge 40, 0, 0), (46, .aload_n 0, 0, 0), (47, .iload_n 3, 0, 0), (48, .invokevirtual 60, 22, 0), (51, .ifCond .eq 24, 0, 0), (54, .aload_n 0, 0, 0), (55, .iload_n 3, 0, 0), (56, .iload_n 2, 0, 0), (57, .iconst 1, 0, 0), (58, .isub, 0, 0), (59, .if_icmp .ne 8, 0, 0), (62, .bipush 59, 0, 0), (64, .goto 5, 0, 0), (67, .bipush 44, 0, 0), (69, .invokevirtual 63, 23, 0), (72, .ifCond .ne 5, 0, 0), (75, .iconst 0, 0, 0), (76, .ireturn, 0, 0), (77, .iinc 3 1, 0, 0), (80, .goto (-39), 0, 0), (83, .iconst 1, 0, 0), (84, .ireturn, 0, 0)]
def K21 : List Ent := [(0, .iload_n 0, 0, 0), (1, .tableswitch 101 97 116 #[97, 101, 101, 101, 101, 101, 101, 101, 101, 101, 95, 101, 101, 95, 101, 99, 101, 97, 101, 97], 95, 0), (96, .iconst 1, 0, 0), (97, .ireturn, 0, 0), (98, .iconst 2, 0, 0), (99, .ireturn, 0, 0), (100, .iconst 3, 0, 0), (101, .ireturn, 0, 0), (102, .iconst 0, 0, 0), (103, .ireturn, 0, 0)]
def K22 : List Ent := [(0, .iconst 0, 0, 0), (1, .istore_n 2, 0, 0), (2, .iconst 0, 0, 0), (3, .istore_n 3, 0, 0), (4, .iload_n 2, 0, 0), (5, .iconst 3, 0, 0), (6, .if_icmp .ge 67, 0, 0), (9, .aload_n 0, 0, 0), (10, .getfield 37, 2, 8), (13, .aload_n 0, 0, 0), (14, .getfield 15, 2, 1), (17, .if_icmp .ge 56, 0, 0), (20, .aload_n 0, 0, 0), (21, .getfield 9, 2, 0), (24, .aload_n 0, 0, 0), (25, .getfield 37, 2, 8), (28, .iaload, 0, 0), (29, .bipush 48, 0, 0), (31, .bipush 57, 0, 0), (33, .invokestatic 67, 85, 1), (36, .ifCond .eq 37, 0, 0), (39, .iload_n 3, 0, 0), (40, .bipush 10, 0, 0), (42, .imul, 0, 0), (43, .aload_n 0, 0, 0), (44, .getfield 9, 2, 0), (47, .aload_n 0, 0, 0), (48, .getfield 37, 2, 8), (51, .iaload, 0, 0), (52, .iadd, 0, 0), (53, .bipush 48, 0, 0), (55, .isub, 0, 0), (56, .istore_n 3, 0, 0), (57, .iinc 2 1, 0, 0), (60, .aload_n 0, 0, 0), (61, .dup, 0, 0), (62, .getfield 37, 2, 8), (65, .iconst 1, 0, 0), (66, .iadd, 0, 0), (67, .putfield 37, 2, 8), (70, .goto (-66), 0, 0), (73, .aload_n 0, 0, 0), (74, .getfield 34, 2, 7), (77, .iload_n 1, 0, 0), (78, .iload_n 3, 0, 0), (79, .iastore, 0, 0), (80, .iload_n 2, 0, 0), (81, .ifCond .le 7, 0, 0), (84, .iconst 1, 0, 0), (85, .goto 4, 0, 0), (88, .iconst 0, 0, 0), (89, .ireturn, 0, 0)]
def K23 : List Ent := [(0, .aload_n 0, 0, 0), (1, .getfield 37, 2, 8), (4, .aload_n 0, 0, 0), (5, .getfield 15, 2, 1), (8, .if_icmp .ge 16, 0, 0), (11, .aload_n 0, 0, 0), (12, .getfield 9, 2, 0), (15, .aload_n 0, 0, 0), (16, .getfield 37, 2, 8), (19, .iaload, 0, 0), (20, .iload_n 1, 0, 0), (21, .if_icmp .eq 5, 0, 0), (24, .iconst 0, 0, 0), (25, .ireturn, 0, 0), (26, .aload_n 0, 0, 0), (27, .dup, 0, 0), (28, .getfield 37, 2, 8), (31, .iconst 1, 0, 0), (32, .iadd, 0, 0), (33, .putfield 37, 2, 8), (36, .iconst 1, 0, 0), (37, .ireturn, 0, 0)]
def K24 : List Ent := [(0, .aload_n 0, 0, 0), (1, .getfield 31, 2, 6), (4, .lookupswitch 137 #[(97, 63), (110, 52), (112, 114), (114, 97), (116, 80)], 52, 0), (56, .aload_n 1, 0, 0), (57, .aload_n 0, 0, 0), (58, .getfield 34, 2, 7), (61, .iconst 0, 0, 0), (62, .iaload, 0, 0), (63, .invokevirtual 71, 39, 0), (66, .ireturn, 0, 0), (67, .aload_n 1, 0, 0), (68, .aload_n 0, 0, 0), (69, .getfield 34, 2, 7), (72, .iconst 0, 0, 0), (73, .iaload, 0, 0), (74, .aload_n 0, 0, 0), (75, .getfield 34, 2, 7), (78, .iconst 1, 0, 0), (79, .iaload, 0, 0), (80, .invokevirtual 76, 40, 0), (83, .ireturn, 0, 0), (84, .aload_n 1, 0, 0), (85, .aload_n 0, 0, 0), (86, .getfield 34, 2, 7), (89, .iconst 0, 0, 0), (90, .iaload, 0, 0), (91, .aload_n 0, 0, 0), (92, .getfield 34, 2, 7), (95, .iconst 1, 0, 0), (96, .iaload, 0, 0), (97, .invokevirtual 80, 41, 0), (100, .ireturn, 0, 0), (101, .aload_n 1, 0, 0), (102, .aload_n 0, 0, 0), (103, .getfield 34, 2, 7), (106, .iconst 0, 0, 0), (107, .iaload, 0, 0), (108, .aload_n 0, 0, 0), (109, .getfield 34, 2, 7), (112, .iconst 1, 0, 0), (113, .iaload, 0, 0), (114, .invokevirtual 83, 42, 0), (117, .ireturn, 0, 0), (118, .aload_n 1, 0, 0), (119, .aload_n 0, 0, 0), (120, .getfield 34, 2, 7), (123, .iconst 0, 0, 0), (124, .iaload, 0, 0), (125, .aload_n 0, 0, 0), (126, .getfield 34, 2, 7), (129, .iconst 1, 0, 0), (130, .iaload, 0, 0), (131, .aload_n 0, 0, 0), (132, .getfield 34, 2, 7), (135, .iconst 2, 0, 0), (136, .iaload, 0, 0), (137, .invokevirtual 86, 47, 0), (140, .ireturn, 0, 0), (141, .aload_n 1, 0, 0), (142, .aload_n 0, 0, 0), (143, .getfield 34, 2, 7), (146, .iconst 0, 0, 0), (147, .iaload, 0, 0), (148, .invokevirtual 90, 49, 0), (151, .ireturn, 0, 0)]
def K25 : List Ent := [(0, .aload_n 0, 0, 0), (1, .invokespecial 3, 1001, 0), (4, .aload_n 0, 0, 0), (5, .bipush 6, 0, 0), (7, .anewarray 9, 1, 0), (10, .putfield 11, 3, 0), (13, .aload_n 0, 0, 0), (14, .iconst 3, 0, 0), (15, .putfield 17, 3, 1), (18, .aload_n 0, 0, 0), (19, .bipush 8, 0, 0), (21, .newarray .int, 0, 0), (23, .putfield 21, 3, 2), (26, .aload_n 0, 0, 0), (27, .bipush 8, 0, 0), (29, .newarray .int, 0, 0), (31, .putfield 25, 3, 3), (34, .aload_n 0, 0, 0), (35, .iconst 0, 0, 0), (36, .putfield 28, 3, 4), (39, .aload_n 0, 0, 0), (40, .bipush 8, 0, 0), (42, .anewarray 31, 2, 0), (45, .putfield 33, 3, 5), (48, .aload_n 0, 0, 0), (49, .iconst 0, 0, 0), (50, .putfield 37, 3, 6), (53, .aload_n 0, 0, 0), (54, .iconst 0, 0, 0), (55, .putfield 40, 3, 7), (58, .aload_n 0, 0, 0), (59, .iconst 0, 0, 0), (60, .putfield 43, 3, 8), (63, .aload_n 0, 0, 0), (64, .iconst 0, 0, 0), (65, .putfield 46, 3, 9), (68, .aload_n 0, 0, 0), (69, .iconst 0, 0, 0), (70, .putfield 49, 3, 10), (73, .iconst 0, 0, 0), (74, .istore_n 1, 0, 0), (75, .iload_n 1, 0, 0), (76, .bipush 6, 0, 0), (78, .if_icmp .ge 22, 0, 0), (81, .aload_n 0, 0, 0), (82, .getfield 11, 3, 0), (85, .iload_n 1, 0, 0), (86, .new 9, 0, 0), (89, .dup, 0, 0), (90, .invokespecial 52, 0, 1), (93, .aastore, 0, 0), (94, .iinc 1 1, 0, 0), (97, .goto (-22), 0, 0), (100, .iconst 0, 0, 0), (101, .istore_n 1, 0, 0), (102, .iload_n 1, 0, 0), (103, .bipush 8, 0, 0), (105, .if_icmp .ge 22, 0, 0), (108, .aload_n 0, 0, 0), (109, .getfield 33, 3, 5), (112, .iload_n 1, 0, 0), (113, .new 31, 1, 0), (116, .dup, 0, 0), (117, .invokespecial 53, 14, 1), (120, .aastore, 0, 0), (121, .iinc 1 1, 0, 0), (124, .goto (-22), 0, 0), (127, .return_, 0, 0)]
def K26 : List Ent := [(0, .iconst 0, 0, 0), (1, .istore_n 2, 0, 0), (2, .iload_n 2, 0, 0), (3, .bipush 6, 0, 0), (5, .if_icmp .ge 24, 0, 0), (8, .aload_n 0, 0, 0), (9, .getfield 11, 3, 0), (12, .iload_n 2, 0, 0), (13, .aaload, 0, 0), (14, .aload_n 1, 0, 0), (15, .getfield 11, 3, 0), (18, .iload_n 2, 0, 0), (19, .aaload, 0, 0), (20, .invokevirtual 54, 1, 0), (23, .iinc 2 1, 0, 0), (26, .goto (-24), 0, 0), (29, .iconst 0, 0, 0), (30, .istore_n 2, 0, 0), (31, .iload_n 2, 0, 0), (32, .bipush 8, 0, 0), (34, .if_icmp .ge 24, 0, 0), (37, .aload_n 0, 0, 0), (38, .getfield 33, 3, 5), (41, .iload_n 2, 0, 0), (42, .aaload, 0, 0), (43, .aload_n 1, 0, 0), (44, .getfield 33, 3, 5), (47, .iload_n 2, 0, 0), (48, .aaload, 0, 0), (49, .invokevirtual 58, 15, 0), (52, .iinc 2 1, 0, 0), (55, .goto (-24), 0, 0), (58, .aload_n 1, 0, 0), (59, .getfield 21, 3, 2), (62, .iconst 0, 0, 0), (63, .aload_n 0, 0, 0), (64, .getfield 21, 3, 2), (67, .iconst 0, 0, 0), (68, .bipush 8, 0, 0), (70, .invokestatic 61, 1000, 0), (73, .aload_n 1, 0, 0), (74, .getfield 25, 3, 3), (77, .iconst 0, 0, 0), (78, .aload_n 0, 0, 0), (79, .getfield 25, 3, 3), (82, .iconst 0, 0, 0), (83, .bipush 8, 0, 0), (85, .invokestatic 61, 1000, 0), (88, .aload_n 0, 0, 0), (89, .aload_n 1, 0, 0), (90, .getfield 17, 3, 1), (93, .putfield 17, 3, 1), (96, .aload_n 0, 0, 0), (97, .aload_n 1, 0, 0), (98, .getfield 28, 3, 4), (101, .putfield 28, 3, 4), (104, .aload_n 0, 0, 0), (105, .aload_n 1, 0, 0), (106, .getfield 37, 3, 6), (109, .putfield 37, 3, 6), (112, .aload_n 0, 0, 0), (113, .aload_n 1, 0, 0), (114, .getfield 40, 3, 7), (117, .putfield 40, 3, 7), (120, .aload_n 0, 0, 0), (121, .aload_n 1, 0, 0), (122, .getfield 43, 3, 8), (125, .putfield 43, 3, 8), (128, .aload_n 0, 0, 0), (129, .aload_n 1, 0, 0), (130, .getfield 46, 3, 9), (133, .putfield 46, 3, 9), (136, .aload_n 0, 0, 0), (137, .aload_n 1, 0, 0), (138, .getfield 49, 3, 10), (141, .putfield 49, 3, 10), (144, .return_, 0, 0)]
def K27 : List Ent := [(0, .iload_n 1, 0, 0), (1, .iconst 0, 0, 0), (2, .iconst 5, 0, 0), (3, .invokestatic 67, 85, 1), (6, .ifCond .eq 18, 0, 0), (9, .aload_n 0, 0, 0), (10, .getfield 17, 3, 1), (13, .iconst 1, 0, 0), (14, .iload_n 1, 0, 0), (15, .ishl, 0, 0), (16, .iand, 0, 0), (17, .ifCond .eq 7, 0, 0), (20, .iconst 1, 0, 0), (21, .goto 4, 0, 0), (24, .iconst 0, 0, 0), (25, .ireturn, 0, 0)]
def K28 : List Ent := [(0, .iload_n 1, 0, 0), (1, .iconst 0, 0, 0), (2, .aload_n 0, 0, 0), (3, .getfield 28, 3, 4), (6, .iconst 1, 0, 0), (7, .isub, 0, 0), (8, .invokestatic 67, 85, 1), (11, .ireturn, 0, 0)]
def K29 : List Ent := [(0, .aload_n 0, 0, 0), (1, .getfield 25, 3, 3), (4, .iload_n 1, 0, 0), (5, .iaload, 0, 0), (6, .iconst (-1), 0, 0), (7, .if_icmp .eq 7, 0, 0), (10, .iconst 1, 0, 0), (11, .goto 4, 0, 0), (14, .iconst 0, 0, 0), (15, .ireturn, 0, 0)]
def K30 : List Ent := [(0, .aload_n 0, 0, 0), (1, .getfield 17, 3, 1), (4, .invokestatic 71, 153, 0), (7, .ireturn, 0, 0)]
def K31 : List Ent := [(0, .iconst 0, 0, 0), (1, .istore_n 1, 0, 0), (2, .iconst 0, 0, 0), (3, .istore_n 2, 0, 0), (4, .iload_n 2, 0, 0), (5, .aload_n 0, 0, 0), (6, .getfield 28, 3, 4), (9, .if_icmp .ge 20, 0, 0), (12, .aload_n 0, 0, 0), (13, .iload_n 2, 0, 0), (14, .invokevirtual 77, 29, 0), (17, .ifCond .ne 6, 0, 0), (20, .iinc 1 1, 0, 0), (23, .iinc 2 1, 0, 0), (26, .goto (-22), 0, 0), (29, .iload_n 1, 0, 0), (30, .ireturn, 0, 0)]
def K32 : List Ent := [(0, .aload_n 0, 0, 0), (1, .getfield 11, 3, 0), (4, .aload_n 0, 0, 0), (5, .getfield 21, 3, 2), (8, .iload_n 1, 0, 0), (9, .iaload, 0, 0), (10, .aaload, 0, 0), (11, .areturn, 0, 0)]
def K33 : List Ent := [(0, .aload_n 0, 0, 0), (1, .iload_n 1, 0, 0), (2, .invokevirtual 81, 32, 0), (5, .getfield 85, 0, 0), (8, .iload_n 1, 0, 0), (9, .iaload, 0, 0), (10, .ireturn, 0, 0)]
def K34 : List Ent := [(0, .iconst 0, 0, 0), (1, .istore_n 2, 0, 0), (2, .iconst 0, 0, 0), (3, .istore_n 3, 0, 0), (4, .iload_n 3, 0, 0), (5, .aload_n 0, 0, 0), (6, .getfield 28, 3, 4), (9, .if_icmp .ge 33, 0, 0), (12, .aload_n 0, 0, 0), (13, .getfield 21, 3, 2), (16, .iload_n 3, 0, 0), (17, .iaload, 0, 0), (18, .iload_n 1, 0, 0), (19, .if_icmp .ne 17, 0, 0), (22, .aload_n 0, 0, 0), (23, .iload_n 3, 0, 0), (24, .invokevirtual 77, 29, 0), (27, .ifCond .ne 9, 0, 0), (30, .iload_n 2, 0, 0), (31, .iconst 1, 0, 0), (32, .iload_n 3, 0, 0), (33, .ishl, 0, 0), (34, .ior, 0, 0), (35, .istore_n 2, 0, 0), (36, .iinc 3 1, 0, 0), (39, .goto (-35), 0, 0), (42, .iload_n 2, 0, 0), (43, .ireturn, 0, 0)]
def K35 : List Ent := [(0, .iconst 0, 0, 0), (1, .istore_n 2, 0, 0), (2, .iconst 0, 0, 0), (3, .istore_n 3, 0, 0), (4, .iload_n 3, 0, 0), (5, .bipush 6, 0, 0), (7, .if_icmp .ge 41, 0, 0), (10, .aload_n 0, 0, 0), (11, .iload_n 3, 0, 0), (12, .invokevirtual 88, 27, 0), (15, .ifCond .eq 27, 0, 0), (18, .aload_n 0, 0, 0), (19, .getfield 11, 3, 0), (22, .iload_n 3, 0, 0), (23, .aaload, 0, 0), (24, .aload_n 0, 0, 0), (25, .getfield 11, 3, 0), (28, .iload_n 1, 0, 0), (29, .aaload, 0, 0), (30, .invokevirtual 91, 9, 0), (33, .ifCond .eq 9, 0, 0), (36, .iload_n 2, 0, 0), (37, .iconst 1, 0, 0), (38, .iload_n 3, 0, 0), (39, .ishl, 0, 0), (40, .ior, 0, 0), (41, .istore_n 2, 0, 0), (42, .iinc 3 1, 0, 0), (45, .goto (-41), 0, 0), (48, .iload_n 2, 0, 0), (49, .ireturn, 0, 0)]
def K36 : List Ent := [(0, .iconst 0, 0, 0), (1, .istore_n 2, 0, 0), (2, .iconst 0, 0, 0), (3, .istore_n 3, 0, 0), (4, .iload_n 3, 0, 0), (5, .bipush 6, 0, 0), (7, .if_icmp .ge 42, 0, 0), (10, .aload_n 0, 0, 0), (11, .iload_n 3, 0, 0), (12, .invokevirtual 88, 27, 0), (15, .ifCond .eq 28, 0, 0), (18, .aload_n 0, 0, 0), (19, .getfield 11, 3, 0), (22, .iload_n 3, 0, 0), (23, .aaload, 0, 0), (24, .getfield 85, 0, 0), (27, .iload_n 1, 0, 0), (28, .iaload, 0, 0), (29, .aload_n 0, 0, 0), (30, .iload_n 1, 0, 0), (31, .invokevirtual 95, 33, 0), (34, .if_icmp .ne 9, 0, 0), (37, .iload_n 2, 0, 0), (38, .iconst 1, 0, 0), (39, .iload_n 3, 0, 0), (40, .ishl, 0, 0), (41, .ior, 0, 0), (42, .istore_n 2, 0, 0), (43, .iinc 3 1, 0, 0), (46, .goto (-42), 0, 0), (49, .iload_n 2, 0, 0), (50, .ireturn, 0, 0)]
def K37 : List Ent := [(0, .iconst 0, 0, 0), (1, .istore_n 2, 0, 0), (2, .iconst 0, 0, 0), (3, .istore_n 3, 0, 0), (4, .iload_n 3, 0, 0), (5, .bipush 6, 0, 0), (7, .if_icmp .ge 36, 0, 0), (10, .aload_n 0, 0, 0), (11, .iload_n 3, 0, 0), (12, .invokevirtual 88, 27, 0), (15, .ifCond .eq 22, 0, 0), (18, .aload_n 0, 0, 0), (19, .getfield 11, 3, 0), (22, .iload_n 3, 0, 0), (23, .aaload, 0, 0), (24, .iload_n 1, 0, 0), (25, .invokevirtual 98, 5, 0), (28, .ifCond .eq 9, 0, 0), (31, .iload_n 2, 0, 0), (32, .iconst 1, 0, 0), (33, .iload_n 3, 0, 0), (34, .ishl, 0, 0), (35, .ior, 0, 0), (36, .istore_n 2, 0, 0), (37, .iinc 3 1, 0, 0), (40, .goto (-36), 0, 0), (43, .iload_n 2, 0, 0), (44, .ireturn, 0, 0)]
def K38 : List Ent := [(0, .aconst_null, 0, 0), (1, .astore_n 2, 0, 0), (2, .iconst 0, 0, 0), (3, .istore_n 3, 0, 0), (4, .iload_n 3, 0, 0), (5, .bipush 6, 0, 0), (7, .if_icmp .ge 48, 0, 0), (10, .aload_n 0, 0, 0), (11, .iload_n 3, 0, 0), (12, .invokevirtual 88, 27, 0), (15, .ifCond .eq 34, 0, 0), (18, .aload_n 2, 0, 0), (19, .ifnull 23, 0, 0), (22, .aload_n 0, 0, 0), (23, .getfield 11, 3, 0), (26, .iload_n 3, 0, 0), (27, .aaload, 0, 0), (28, .getfield 85, 0, 0), (31, .iload_n 1, 0, 0), (32, .iaload, 0, 0), (33, .aload_n 2, 0, 0), (34, .getfield 85, 0, 0), (37, .iload_n 1, 0, 0), (38, .iaload, 0, 0), (39, .if_icmp .ge 10, 0, 0), (42, .aload_n 0, 0, 0), (43, .getfield 11, 3, 0), (46, .iload_n 3, 0, 0), (47, .aaload, 0, 0), (48, .astore_n 2, 0, 0), (49, .iinc 3 1, 0, 0), (52, .goto (-48), 0, 0), (55, .aload_n 2, 0, 0), (56, .ifnonnull 7, 0, 0), (59, .iconst 0, 0, 0), (60, .goto 16, 0, 0), (63, .aload_n 2, 0, 0), (64, .getfield 101, 0, 1), (67, .iload_n 1, 0, 0), (68, .iaload, 0, 0), (69, .aload_n 2, 0, 0), (70, .getfield 104, 0, 2), (73, .iload_n 1, 0, 0), (74, .iaload, 0, 0), (75, .isub, 0, 0), (76, .ireturn, 0, 0)]
def K39 : List Ent := [(0, .aload_n 0, 0, 0), (1, .iload_n 1, 0, 0), (2, .invokevirtual 88, 27, 0), (5, .ifCond .ne 6, 0, 0), (8, .ldc 107, 0, -2000000001), (10, .ireturn, 0, 0), (11, .aload_n 0, 0, 0), (12, .getfield 28, 3, 4), (15, .bipush 8, 0, 0), (17, .if_icmp .lt 6, 0, 0), (20, .ldc 108, 0, -2000000003), (22, .ireturn, 0, 0), (23, .aload_n 0, 0, 0), (24, .getfield 28, 3, 4), (27, .istore_n 2, 0, 0), (28, .aload_n 0, 0, 0), (29, .dup, 0, 0), (30, .getfield 28, 3, 4), (33, .iconst 1, 0, 0), (34, .iadd, 0, 0), (35, .putfield 28, 3, 4), (38, .aload_n 0, 0, 0), (39, .getfield 21, 3, 2), (42, .iload_n 2, 0, 0), (43, .iload_n 1, 0, 0), (44, .iastore, 0, 0), (45, .aload_n 0, 0, 0), (46, .getfield 25, 3, 3), (49, .iload_n 2, 0, 0), (50, .iconst (-1), 0, 0), (51, .iastore, 0, 0), (52, .aload_n 0, 0, 0), (53, .getfield 11, 3, 0), (56, .iload_n 1, 0, 0), (57, .aaload, 0, 0), (58, .iload_n 2, 0, 0), (59, .iconst 0, 0, 0), (60, .iconst 0, 0, 0), (61, .invokevirtual 109, 6, 0), (64, .iload_n 2, 0, 0), (65, .ireturn, 0, 0)]
def K40 : List Ent := [(0, .aload_n 0, 0, 0), (1, .iload_n 1, 0, 0), (2, .invokevirtual 113, 28, 0), (5, .ifCond .eq 14, 0, 0), (8, .iload_n 2, 0, 0), (9, .iconst 1, 0, 0), (10, .sipush 999, 0, 0), (13, .invokestatic 67, 85, 1), (16, .ifCond .ne 6, 0, 0), (19, .ldc 107, 0, -2000000001), (21, .ireturn, 0, 0), (22, .aload_n 0, 0, 0), (23, .iload_n 1, 0, 0), (24, .invokevirtual 77, 29, 0), (27, .ifCond .eq 6, 0, 0), (30, .ldc 116, 0, -2000000002), (32, .ireturn, 0, 0), (33, .aload_n 0, 0, 0), (34, .iload_n 1, 0, 0), (35, .invokevirtual 81, 32, 0), (38, .iload_n 1, 0, 0), (39, .iload_n 2, 0, 0), (40, .iconst 0, 0, 0), (41, .invokevirtual 109, 6, 0), (44, .aload_n 0, 0, 0), (45, .iload_n 1, 0, 0), (46, .invokevirtual 81, 32, 0), (49, .invokevirtual 117, 12, 0), (52, .ireturn, 0, 0)]
def K41 : List Ent := [(0, .aload_n 0, 0, 0), (1, .iload_n 1, 0, 0), (2, .invokevirtual 113, 28, 0), (5, .ifCond .eq 14, 0, 0), (8, .iload_n 2, 0, 0), (9, .iconst 1, 0, 0), (10, .sipush 999, 0, 0), (13, .invokestatic 67, 85, 1), (16, .ifCond .ne 6, 0, 0), (19, .ldc 107, 0, -2000000001), (21, .ireturn, 0, 0), (22, .aload_n 0, 0, 0), (23, .iload_n 1, 0, 0), (24, .invokevirtual 77, 29, 0), (27, .ifCond .ne 15, 0, 0), (30, .aload_n 0, 0, 0), (31, .iload_n 1, 0, 0), (32, .invokevirtual 81, 32, 0), (35, .invokevirtual 117, 12, 0), (38, .iload_n 2, 0, 0), (39, .if_icmp .ge 6, 0, 0), (42, .ldc 116, 0, -2000000002), (44, .ireturn, 0, 0), (45, .aload_n 0, 0, 0), (46, .iload_n 1, 0, 0), (47, .invokevirtual 81, 32, 0), (50, .iload_n 1, 0, 0), (51, .iconst 0, 0, 0), (52, .iload_n 2, 0, 0), (53, .invokevirtual 109, 6, 0), (56, .aload_n 0, 0, 0), (57, .iload_n 1, 0, 0), (58, .invokevirtual 81, 32, 0), (61, .invokevirtual 117, 12, 0), (64, .ireturn, 0, 0)]
def K42 : List Ent := [(0, .aload_n 0, 0, 0), (1, .iload_n 1, 0, 0), (2, .invokevirtual 113, 28, 0), (5, .ifCond .eq 16, 0, 0), (8, .aload_n 0, 0, 0), (9, .iload_n 2, 0, 0), (10, .invokevirtual 113, 28, 0), (13, .ifCond .eq 8, 0, 0), (16, .iload_n 1, 0, 0), (17, .iload_n 2, 0, 0), (18, .if_icmp .ne 6, 0, 0), (21, .ldc 107, 0, -2000000001), (23, .ireturn, 0, 0), (24, .aload_n 0, 0, 0), (25, .iload_n 1, 0, 0), (26, .invokevirtual 77, 29, 0), (29, .ifCond .ne 26, 0, 0), (32, .aload_n 0, 0, 0), (33, .iload_n 2, 0, 0), (34, .invokevirtual 77, 29, 0), (37, .ifCond .ne 18, 0, 0), (40, .aload_n 0, 0, 0), (41, .getfield 21, 3, 2), (44, .iload_n 1, 0, 0), (45, .iaload, 0, 0), (46, .aload_n 0, 0, 0), (47, .getfield 21, 3, 2), (50, .iload_n 2, 0, 0), (51, .iaload, 0, 0), (52, .if_icmp .eq 6, 0, 0), (55, .ldc 116, 0, -2000000002), (57, .ireturn, 0, 0), (58, .aload_n 0, 0, 0), (59, .iload_n 1, 0, 0), (60, .invokevirtual 81, 32, 0), (63, .iload_n 1, 0, 0), (64, .iload_n 2, 0, 0), (65, .invokevirtual 121, 7, 0), (68, .aload_n 0, 0, 0), (69, .getfield 25, 3, 3), (72, .iload_n 1, 0, 0), (73, .iload_n 2, 0, 0), (74, .iastore, 0, 0), (75, .aload_n 0, 0, 0), (76, .invokevirtual 125, 31, 0), (79, .ireturn, 0, 0)]
def K43 : List Ent := [(0, .aload_n 0, 0, 0), (1, .iload_n 1, 0, 0), (2, .invokevirtual 113, 28, 0), (5, .ifCond .eq 11, 0, 0), (8, .aload_n 0, 0, 0), (9, .iload_n 2, 0, 0), (10, .invokevirtual 88, 27, 0), (13, .ifCond .ne 6, 0, 0), (16, .ldc 107, 0, -2000000001), (18, .ireturn, 0, 0), (19, .aload_n 0, 0, 0), (20, .iload_n 1, 0, 0), (21, .invokevirtual 77, 29, 0), (24, .ifCond .ne 32, 0, 0), (27, .aload_n 0, 0, 0), (28, .getfield 21, 3, 2), (31, .iload_n 1, 0, 0), (32, .iaload, 0, 0), (33, .iload_n 2, 0, 0), (34, .if_icmp .eq 22, 0, 0), (37, .aload_n 0, 0, 0), (38, .getfield 11, 3, 0), (41, .iload_n 2, 0, 0), (42, .aaload, 0, 0), (43, .getfield 85, 0, 0), (46, .iload_n 1, 0, 0), (47, .iaload, 0, 0), (48, .aload_n 0, 0, 0), (49, .iload_n 1, 0, 0), (50, .invokevirtual 95, 33, 0), (53, .if_icmp .eq 6, 0, 0), (56, .ldc 116, 0, -2000000002), (58, .ireturn, 0, 0), (59, .aload_n 0, 0, 0), (60, .getfield 21, 3, 2), (63, .iload_n 1, 0, 0), (64, .iaload, 0, 0), (65, .istore_n 3, 0, 0), (66, .aload_n 0, 0, 0), (67, .getfield 21, 3, 2), (70, .iload_n 1, 0, 0), (71, .iload_n 2, 0, 0), (72, .iastore, 0, 0), (73, .iload_n 3, 0, 0), (74, .ireturn, 0, 0)]
def K44 : List Ent := [(0, .aload_n 0, 0, 0), (1, .iload_n 1, 0, 0), (2, .invokevirtual 88, 27, 0), (5, .ifCond .ne 6, 0, 0), (8, .ldc 107, 0, -2000000001), (10, .ireturn, 0, 0), (11, .iconst 0, 0, 0), (12, .istore_n 2, 0, 0), (13, .iload_n 2, 0, 0), (14, .bipush 6, 0, 0), (16, .if_icmp .ge 46, 0, 0), (19, .aload_n 0, 0, 0), (20, .iload_n 2, 0, 0), (21, .invokevirtual 88, 27, 0), (24, .ifCond .ne 32, 0, 0), (27, .aload_n 0, 0, 0), (28, .dup, 0, 0), (29, .getfield 17, 3, 1), (32, .iconst 1, 0, 0), (33, .iload_n 2, 0, 0), (34, .ishl, 0, 0), (35, .ior, 0, 0), (36, .putfield 17, 3, 1), (39, .aload_n 0, 0, 0), (40, .getfield 11, 3, 0), (43, .iload_n 2, 0, 0), (44, .aaload, 0, 0), (45, .aload_n 0, 0, 0), (46, .getfield 11, 3, 0), (49, .iload_n 1, 0, 0), (50, .aaload, 0, 0), (51, .invokevirtual 54, 1, 0), (54, .iload_n 2, 0, 0), (55, .ireturn, 0, 0), (56, .iinc 2 1, 0, 0), (59, .goto (-46), 0, 0), (62, .ldc 108, 0, -2000000003), (64, .ireturn, 0, 0)]
def K45 : List Ent := [(0, .aload_n 0, 0, 0), (1, .iload_n 1, 0, 0), (2, .invokevirtual 88, 27, 0), (5, .ifCond .ne 6, 0, 0), (8, .ldc 107, 0, -2000000001), (10, .ireturn, 0, 0), (11, .aload_n 0, 0, 0), (12, .iload_n 1, 0, 0), (13, .invokevirtual 128, 34, 0), (16, .ifCond .ne 11, 0, 0), (19, .aload_n 0, 0, 0), (20, .invokevirtual 131, 30, 0), (23, .iconst 1, 0, 0), (24, .if_icmp .ne 6, 0, 0), (27, .ldc 116, 0, -2000000002), (29, .ireturn, 0, 0), (30, .aload_n 0, 0, 0), (31, .dup, 0, 0), (32, .getfield 17, 3, 1), (35, .iconst 1, 0, 0), (36, .iload_n 1, 0, 0), (37, .ishl, 0, 0), (38, .iconst (-1), 0, 0), (39, .ixor, 0, 0), (40, .iand, 0, 0), (41, .putfield 17, 3, 1), (44, .iconst 0, 0, 0), (45, .istore_n 2, 0, 0), (46, .iload_n 2, 0, 0), (47, .aload_n 0, 0, 0), (48, .getfield 37, 3, 6), (51, .if_icmp .ge 32, 0, 0), (54, .aload_n 0, 0, 0), (55, .getfield 33, 3, 5), (58, .iload_n 2, 0, 0), (59, .aaload, 0, 0), (60, .getfield 134, 1, 1), (63, .iload_n 1, 0, 0), (64, .if_icmp .ne 13, 0, 0), (67, .aload_n 0, 0, 0), (68, .getfield 33, 3, 5), (71, .iload_n 2, 0, 0), (72, .aaload, 0, 0), (73, .iconst 1, 0, 0), (74, .putfield 137, 1, 3), (77, .iinc 2 1, 0, 0), (80, .goto (-34), 0, 0), (83, .aload_n 0, 0, 0), (84, .invokevirtual 131, 30, 0), (87, .ireturn, 0, 0)]
def K46 : List Ent := [(0, .aload_n 0, 0, 0), (1, .iload_n 1, 0, 0), (2, .invokevirtual 88, 27, 0), (5, .ifCond .eq 16, 0, 0), (8, .aload_n 0, 0, 0), (9, .iload_n 2, 0, 0), (10, .invokevirtual 88, 27, 0), (13, .ifCond .eq 8, 0, 0), (16, .iload_n 1, 0, 0), (17, .iload_n 2, 0, 0), (18, .if_icmp .ne 6, 0, 0), (21, .ldc 107, 0, -2000000001), (23, .ireturn, 0, 0), (24, .aload_n 0, 0, 0), (25, .getfield 11, 3, 0), (28, .iload_n 1, 0, 0), (29, .aaload, 0, 0), (30, .aload_n 0, 0, 0), (31, .getfield 11, 3, 0), (34, .iload_n 2, 0, 0), (35, .aaload, 0, 0), (36, .invokevirtual 141, 8, 0), (39, .istore_n 3, 0, 0), (40, .aload_n 0, 0, 0), (41, .dup, 0, 0), (42, .getfield 49, 3, 10), (45, .iload_n 3, 0, 0), (46, .iadd, 0, 0), (47, .putfield 49, 3, 10), (50, .iload_n 3, 0, 0), (51, .ireturn, 0, 0)]
def K47 : List Ent := [(0, .aload_n 0, 0, 0), (1, .iload_n 1, 0, 0), (2, .invokevirtual 88, 27, 0), (5, .ifCond .eq 26, 0, 0), (8, .aload_n 0, 0, 0), (9, .iload_n 2, 0, 0), (10, .invokevirtual 88, 27, 0), (13, .ifCond .eq 18, 0, 0), (16, .iload_n 1, 0, 0), (17, .iload_n 2, 0, 0), (18, .if_icmp .eq 13, 0, 0), (21, .iload_n 3, 0, 0), (22, .iconst 1, 0, 0), (23, .bipush 99, 0, 0), (25, .invokestatic 67, 85, 1), (28, .ifCond .ne 6, 0, 0), (31, .ldc 107, 0, -2000000001), (33, .ireturn, 0, 0), (34, .aload_n 0, 0, 0), (35, .getfield 37, 3, 6), (38, .bipush 8, 0, 0), (40, .if_icmp .lt 6, 0, 0), (43, .ldc 108, 0, -2000000003), (45, .ireturn, 0, 0), (46, .aload_n 0, 0, 0), (47, .aload_n 0, 0, 0), (48, .getfield 40, 3, 7), (51, .iload_n 3, 0, 0), (52, .iadd, 0, 0), (53, .invokevirtual 145, 48, 0), (56, .astore 4, 0, 0), (58, .aload 4, 0, 0), (60, .iload_n 1, 0, 0), (61, .putfield 149, 1, 0), (64, .aload 4, 0, 0), (66, .iload_n 2, 0, 0), (67, .putfield 134, 1, 1), (70, .aload 4, 0, 0), (72, .iconst 0, 0, 0), (73, .putfield 137, 1, 3), (76, .aload 4, 0, 0), (78, .getfield 152, 1, 4), (81, .aload_n 0, 0, 0), (82, .getfield 11, 3, 0), (85, .iload_n 1, 0, 0), (86, .aaload, 0, 0), (87, .invokevirtual 54, 1, 0), (90, .aload 4, 0, 0), (92, .getfield 156, 1, 2), (95, .ireturn, 0, 0)]
def K48 : List Ent := [(0, .aload_n 0, 0, 0), (1, .getfield 33, 3, 5), (4, .aload_n 0, 0, 0), (5, .getfield 37, 3, 6), (8, .aaload, 0, 0), (9, .astore_n 2, 0, 0), (10, .aload_n 2, 0, 0), (11, .iload_n 1, 0, 0), (12, .putfield 156, 1, 2), (15, .aload_n 0, 0, 0), (16, .getfield 37, 3, 6), (19, .istore_n 3, 0, 0), (20, .iload_n 3, 0, 0), (21, .ifCond .le 38, 0, 0), (24, .aload_n 0, 0, 0), (25, .getfield 33, 3, 5), (28, .iload_n 3, 0, 0), (29, .iconst 1, 0, 0), (30, .isub, 0, 0), (31, .aaload, 0, 0), (32, .getfield 156, 1, 2), (35, .iload_n 1, 0, 0), (36, .if_icmp .le 23, 0, 0), (39, .aload_n 0, 0, 0), (40, .getfield 33, 3, 5), (43, .iload_n 3, 0, 0), (44, .aload_n 0, 0, 0), (45, .getfield 33, 3, 5), (48, .iload_n 3, 0, 0), (49, .iconst 1, 0, 0), (50, .isub, 0, 0), (51, .aaload, 0, 0), (52, .aastore, 0, 0), (53, .iinc 3 (-1), 0, 0), (56, .goto (-36), 0, 0), (59, .aload_n 0, 0, 0), (60, .getfield 33, 3, 5), (63, .iload_n 3, 0, 0), (64, .aload_n 2, 0, 0), (65, .aastore, 0, 0), (66, .aload_n 0, 0, 0), (67, .dup, 0, 0), (68, .getfield 37, 3, 6), (71, .iconst 1, 0, 0), (72, .iadd, 0, 0), (73, .putfield 37, 3, 6), (76, .aload_n 2, 0, 0), (77, .areturn, 0, 0)]
def K49 : List Ent := [(0, .iload_n 1, 0, 0), (1, .iconst 1, 0, 0), (2, .bipush 99, 0, 0), (4, .invokestatic 67, 85, 1), (7, .ifCond .ne 6, 0, 0), (10, .ldc 107, 0, -2000000001), (12, .ireturn, 0, 0), (13, .aload_n 0, 0, 0), (14, .getfield 40, 3, 7), (17, .iload_n 1, 0, 0), (18, .iadd, 0, 0), (19, .sipush 1999, 0, 0), (22, .if_icmp .le 6, 0, 0), (25, .ldc 108, 0, -2000000003), (27, .ireturn, 0, 0), (28, .aload_n 0, 0, 0), (29, .dup, 0, 0), (30, .getfield 40, 3, 7), (33, .iload_n 1, 0, 0), (34, .iadd, 0, 0), (35, .putfield 40, 3, 7), (38, .aload_n 0, 0, 0), (39, .getfield 43, 3, 8), (42, .istore_n 2, 0, 0), (43, .iconst 0, 0, 0), (44, .istore_n 3, 0, 0), (45, .iload_n 3, 0, 0), (46, .aload_n 0, 0, 0), (47, .getfield 37, 3, 6), (50, .if_icmp .ge 35, 0, 0), (53, .aload_n 0, 0, 0), (54, .getfield 33, 3, 5), (57, .iload_n 3, 0, 0), (58, .aaload, 0, 0), (59, .getfield 156, 1, 2), (62, .aload_n 0, 0, 0), (63, .getfield 40, 3, 7), (66, .if_icmp .gt 19, 0, 0), (69, .aload_n 0, 0, 0), (70, .aload_n 0, 0, 0), (71, .getfield 33, 3, 5), (74, .iload_n 3, 0, 0), (75, .aaload, 0, 0), (76, .invokevirtual 159, 50, 0), (79, .iinc 3 1, 0, 0), (82, .goto (-37), 0, 0), (85, .aload_n 0, 0, 0), (86, .iload_n 3, 0, 0), (87, .invokevirtual 162, 51, 0), (90, .aload_n 0, 0, 0), (91, .getfield 43, 3, 8), (94, .iload_n 2, 0, 0), (95, .isub, 0, 0), (96, .ireturn, 0, 0)]
def K50 : List Ent := [(0, .aload_n 1, 0, 0), (1, .getfield 137, 1, 3), (4, .ifCond .eq 16, 0, 0), (7, .aload_n 0, 0, 0), (8, .dup, 0, 0), (9, .getfield 46, 3, 9), (12, .iconst 1, 0, 0), (13, .iadd, 0, 0), (14, .putfield 46, 3, 9), (17, .goto 38, 0, 0), (20, .aload_n 0, 0, 0), (21, .dup, 0, 0), (22, .getfield 49, 3, 10), (25, .aload_n 0, 0, 0), (26, .getfield 11, 3, 0), (29, .aload_n 1, 0, 0), (30, .getfield 134, 1, 1), (33, .aaload, 0, 0), (34, .aload_n 1, 0, 0), (35, .getfield 152, 1, 4), (38, .invokevirtual 141, 8, 0), (41, .iadd, 0, 0), (42, .putfield 49, 3, 10), (45, .aload_n 0, 0, 0), (46, .dup, 0, 0), (47, .getfield 43, 3, 8), (50, .iconst 1, 0, 0), (51, .iadd, 0, 0), (52, .putfield 43, 3, 8), (55, .return_, 0, 0)]
def K51 : List Ent := [(0, .iload_n 1, 0, 0), (1, .istore_n 2, 0, 0), (2, .iload_n 2, 0, 0), (3, .aload_n 0, 0, 0), (4, .getfield 37, 3, 6), (7, .if_icmp .ge 39, 0, 0), (10, .aload_n 0, 0, 0), (11, .getfield 33, 3, 5), (14, .iload_n 2, 0, 0), (15, .iload_n 1, 0, 0), (16, .isub, 0, 0), (17, .aaload, 0, 0), (18, .astore_n 3, 0, 0), (19, .aload_n 0, 0, 0), (20, .getfield 33, 3, 5), (23, .iload_n 2, 0, 0), (24, .iload_n 1, 0, 0), (25, .isub, 0, 0), (26, .aload_n 0, 0, 0), (27, .getfield 33, 3, 5), (30, .iload_n 2, 0, 0), (31, .aaload, 0, 0), (32, .aastore, 0, 0), (33, .aload_n 0, 0, 0), (34, .getfield 33, 3, 5), (37, .iload_n 2, 0, 0), (38, .aload_n 3, 0, 0), (39, .aastore, 0, 0), (40, .iinc 2 1, 0, 0), (43, .goto (-41), 0, 0), (46, .aload_n 0, 0, 0), (47, .dup, 0, 0), (48, .getfield 37, 3, 6), (51, .iload_n 1, 0, 0), (52, .isub, 0, 0), (53, .putfield 37, 3, 6), (56, .return_, 0, 0)]
def K52 : List Ent := [(0, .iconst 0, 0, 0), (1, .istore_n 1, 0, 0), (2, .aload_n 0, 0, 0), (3, .iconst 5, 0, 0), (4, .invokevirtual 166, 53, 0), (7, .istore_n 2, 0, 0), (8, .iload_n 1, 0, 0), (9, .sipush 1000, 0, 0), (12, .if_icmp .ge 45, 0, 0), (15, .aload_n 0, 0, 0), (16, .iload_n 2, 0, 0), (17, .invokevirtual 169, 35, 0), (20, .aload_n 0, 0, 0), (21, .getfield 17, 3, 1), (24, .if_icmp .eq 33, 0, 0), (27, .aload_n 0, 0, 0), (28, .iload_n 2, 0, 0), (29, .invokevirtual 166, 53, 0), (32, .istore_n 3, 0, 0), (33, .aload_n 0, 0, 0), (34, .getfield 11, 3, 0), (37, .iload_n 2, 0, 0), (38, .aaload, 0, 0), (39, .aload_n 0, 0, 0), (40, .getfield 11, 3, 0), (43, .iload_n 3, 0, 0), (44, .aaload, 0, 0), (45, .invokevirtual 141, 8, 0), (48, .pop, 0, 0), (49, .iload_n 3, 0, 0), (50, .istore_n 2, 0, 0), (51, .iinc 1 1, 0, 0), (54, .goto (-46), 0, 0), (57, .iload_n 1, 0, 0), (58, .ireturn, 0, 0)]
def K53 : List Ent := [(0, .iconst 1, 0, 0), (1, .istore_n 2, 0, 0), (2, .iload_n 2, 0, 0), (3, .bipush 6, 0, 0), (5, .if_icmp .gt 26, 0, 0), (8, .iload_n 1, 0, 0), (9, .iload_n 2, 0, 0), (10, .iadd, 0, 0), (11, .bipush 6, 0, 0), (13, .irem, 0, 0), (14, .istore_n 3, 0, 0), (15, .aload_n 0, 0, 0), (16, .iload_n 3, 0, 0), (17, .invokevirtual 88, 27, 0), (20, .ifCond .eq 5, 0, 0), (23, .iload_n 3, 0, 0), (24, .ireturn, 0, 0), (25, .iinc 2 1, 0, 0), (28, .goto (-26), 0, 0), (31, .iload_n 1, 0, 0), (32, .ireturn, 0, 0)]
def K54 : List Ent := [(0, .aload_n 0, 0, 0), (1, .invokespecial 1, 1001, 0), (4, .aload_n 0, 0, 0), (5, .new 7, 3, 0), (8, .dup, 0, 0), (9, .invokespecial 9, 25, 0), (12, .putfield 10, 4, 0), (15, .aload_n 0, 0, 0), (16, .new 7, 3, 0), (19, .dup, 0, 0), (20, .invokespecial 9, 25, 0), (23, .putfield 16, 4, 1), (26, .aload_n 0, 0, 0), (27, .iconst 4, 0, 0), (28, .anewarray 7, 3, 0), (31, .putfield 19, 4, 2), (34, .aload_n 0, 0, 0), (35, .iconst 0, 0, 0), (36, .putfield 23, 4, 3), (39, .aload_n 0, 0, 0), (40, .new 27, 0, 0), (43, .dup, 0, 0), (44, .invokespecial 29, 0, 1), (47, .putfield 30, 4, 4), (50, .aload_n 0, 0, 0), (51, .new 34, 2, 0), (54, .dup, 0, 0), (55, .invokespecial 36, 16, 1), (58, .putfield 37, 4, 5), (61, .iconst 0, 0, 0), (62, .istore_n 1, 0, 0), (63, .iload_n 1, 0, 0), (64, .iconst 4, 0, 0), (65, .if_icmp .ge 22, 0, 0), (68, .aload_n 0, 0, 0), (69, .getfield 19, 4, 2), (72, .iload_n 1, 0, 0), (73, .new 7, 3, 0), (76, .dup, 0, 0), (77, .invokespecial 9, 25, 0), (80, .aastore, 0, 0), (81, .iinc 1 1, 0, 0), (84, .goto (-21), 0, 0), (87, .return_, 0, 0)]
def K55 : List Ent := [(0, .aload_n 0, 0, 0), (1, .aload_n 0, 0, 0), (2, .invokevirtual 41, 81, 0), (5, .iload_n 1, 0, 0), (6, .invokevirtual 45, 39, 0), (9, .invokevirtual 49, 82, 0), (12, .ireturn, 0, 0)]
def K56 : List Ent := [(0, .aload_n 0, 0, 0), (1, .aload_n 0, 0, 0), (2, .invokevirtual 41, 81, 0), (5, .iload_n 1, 0, 0), (6, .iload_n 2, 0, 0), (7, .invokevirtual 52, 40, 0), (10, .invokevirtual 49, 82, 0), (13, .ireturn, 0, 0)]
def K57 : List Ent := [(0, .aload_n 0, 0, 0), (1, .aload_n 0, 0, 0), (2, .invokevirtual 41, 81, 0), (5, .iload_n 1, 0, 0), (6, .iload_n 2, 0, 0), (7, .invokevirtual 56, 41, 0), (10, .invokevirtual 49, 82, 0), (13, .ireturn, 0, 0)]
def K58 : List Ent := [(0, .aload_n 0, 0, 0), (1, .aload_n 0, 0, 0), (2, .invokevirtual 41, 81, 0), (5, .iload_n 1, 0, 0), (6, .iload_n 2, 0, 0), (7, .invokevirtual 59, 42, 0), (10, .invokevirtual 49, 82, 0), (13, .ireturn, 0, 0)]
def K59 : List Ent := [(0, .aload_n 0, 0, 0), (1, .aload_n 0, 0, 0), (2, .invokevirtual 41, 81, 0), (5, .iload_n 1, 0, 0), (6, .iload_n 2, 0, 0), (7, .invokevirtual 62, 43, 0), (10, .invokevirtual 49, 82, 0), (13, .ireturn, 0, 0)]
def K60 : List Ent := [(0, .aload_n 0, 0, 0), (1, .aload_n 0, 0, 0), (2, .invokevirtual 41, 81, 0), (5, .iload_n 1, 0, 0), (6, .invokevirtual 65, 44, 0), (9, .invokevirtual 49, 82, 0), (12, .ireturn, 0, 0)]
def K61 : List Ent := [(0, .aload_n 0, 0, 0), (1, .aload_n 0, 0, 0), (2, .invokevirtual 41, 81, 0), (5, .iload_n 1, 0, 0), (6, .invokevirtual 68, 45, 0), (9, .invokevirtual 49, 82, 0), (12, .ireturn, 0, 0)]
def K62 : List Ent := [(0, .aload_n 0, 0, 0), (1, .aload_n 0, 0, 0), (2, .invokevirtual 41, 81, 0), (5, .iload_n 1, 0, 0), (6, .iload_n 2, 0, 0), (7, .invokevirtual 71, 46, 0), (10, .invokevirtual 49, 82, 0), (13, .ireturn, 0, 0)]
def K63 : List Ent := [(0, .aload_n 0, 0, 0), (1, .aload_n 0, 0, 0), (2, .invokevirtual 41, 81, 0), (5, .iload_n 1, 0, 0), (6, .iload_n 2, 0, 0), (7, .iload_n 3, 0, 0), (8, .invokevirtual 74, 47, 0), (11, .invokevirtual 49, 82, 0), (14, .ireturn, 0, 0)]
def K64 : List Ent := [(0, .aload_n 0, 0, 0), (1, .aload_n 0, 0, 0), (2, .invokevirtual 41, 81, 0), (5, .iload_n 1, 0, 0), (6, .invokevirtual 78, 49, 0), (9, .invokevirtual 49, 82, 0), (12, .ireturn, 0, 0)]
def K65 : List Ent := [(0, .aload_n 0, 0, 0), (1, .getfield 10, 4, 0), (4, .iload_n 1, 0, 0), (5, .invokevirtual 81, 27, 0), (8, .ifCond .ne 6, 0, 0), (11, .ldc 85, 0, -2000000001), (13, .ireturn, 0, 0), (14, .aload_n 0, 0, 0), (15, .getfield 10, 4, 0), (18, .getfield 86, 3, 0), (21, .iload_n 1, 0, 0), (22, .aaload, 0, 0), (23, .astore_n 3, 0, 0), (24, .iload_n 2, 0, 0), (25, .tableswitch 101 0 7 #[47, 52, 57, 62, 70, 78, 87, 92], 47, 0), (72, .aload_n 3, 0, 0), (73, .invokevirtual 90, 12, 0), (76, .ireturn, 0, 0), (77, .aload_n 3, 0, 0), (78, .invokevirtual 94, 10, 0), (81, .ireturn, 0, 0), (82, .aload_n 3, 0, 0), (83, .invokevirtual 97, 11, 0), (86, .ireturn, 0, 0), (87, .aload_n 3, 0, 0), (88, .invokevirtual 100, 13, 0), (91, .invokestatic 103, 153, 0), (94, .ireturn, 0, 0), (95, .aload_n 3, 0, 0), (96, .getfield 108, 0, 3), (99, .invokestatic 103, 153, 0), (102, .ireturn, 0, 0), (103, .aload_n 0, 0, 0), (104, .getfield 10, 4, 0), (107, .iload_n 1, 0, 0), (108, .invokevirtual 111, 34, 0), (111, .ireturn, 0, 0), (112, .aload_n 3, 0, 0), (113, .invokevirtual 100, 13, 0), (116, .ireturn, 0, 0), (117, .aload_n 0, 0, 0), (118, .getfield 10, 4, 0), (121, .iload_n 1, 0, 0), (122, .invokevirtual 114, 35, 0), (125, .ireturn, 0, 0), (126, .ldc 85, 0, -2000000001), (128, .ireturn, 0, 0)]
def K66 : List Ent := [(0, .aload_n 0, 0, 0), (1, .getfield 10, 4, 0), (4, .iload_n 1, 0, 0), (5, .invokevirtual 81, 27, 0), (8, .ifCond .eq 23, 0, 0), (11, .aload_n 0, 0, 0), (12, .getfield 10, 4, 0), (15, .iload_n 2, 0, 0), (16, .invokevirtual 117, 28, 0), (19, .ifCond .eq 12, 0, 0), (22, .iload_n 3, 0, 0), (23, .iconst 0, 0, 0), (24, .iconst 2, 0, 0), (25, .invokestatic 120, 85, 0), (28, .ifCond .ne 6, 0, 0), (31, .ldc 85, 0, -2000000001), (33, .ireturn, 0, 0), (34, .aload_n 0, 0, 0), (35, .getfield 10, 4, 0), (38, .getfield 86, 3, 0), (41, .iload_n 1, 0, 0), (42, .aaload, 0, 0), (43, .astore 4, 0, 0), (45, .aload 4, 0, 0), (47, .iload_n 2, 0, 0), (48, .invokevirtual 124, 4, 0), (51, .ifCond .ne 6, 0, 0), (54, .ldc 127, 0, -2000000004), (56, .ireturn, 0, 0), (57, .iload_n 3, 0, 0), (58, .lookupswitch 42 #[(0, 26), (1, 34)], 26, 0), (84, .aload 4, 0, 0), (86, .getfield 128, 0, 0), (89, .iload_n 2, 0, 0), (90, .iaload, 0, 0), (91, .ireturn, 0, 0), (92, .aload 4, 0, 0), (94, .getfield 132, 0, 1), (97, .iload_n 2, 0, 0), (98, .iaload, 0, 0), (99, .ireturn, 0, 0), (100, .aload 4, 0, 0), (102, .getfield 135, 0, 2), (105, .iload_n 2, 0, 0), (106, .iaload, 0, 0), (107, .ireturn, 0, 0)]
def K67 : List Ent := [(0, .aload_n 0, 0, 0), (1, .getfield 10, 4, 0), (4, .iload_n 1, 0, 0), (5, .invokevirtual 117, 28, 0), (8, .ifCond .ne 6, 0, 0), (11, .ldc 85, 0, -2000000001), (13, .ireturn, 0, 0), (14, .aload_n 0, 0, 0), (15, .getfield 10, 4, 0), (18, .iload_n 1, 0, 0), (19, .invokevirtual 138, 29, 0), (22, .istore_n 3, 0, 0), (23, .iload_n 2, 0, 0), (24, .tableswitch 119 0 4 #[36, 55, 73, 92, 110], 36, 0), (60, .iload_n 3, 0, 0), (61, .ifCond .eq 8, 0, 0), (64, .ldc 127, 0, -2000000004), (66, .goto 12, 0, 0), (69, .aload_n 0, 0, 0), (70, .getfield 10, 4, 0), (73, .getfield 141, 3, 2), (76, .iload_n 1, 0, 0), (77, .iaload, 0, 0), (78, .ireturn, 0, 0), (79, .iload_n 3, 0, 0), (80, .ifCond .eq 8, 0, 0), (83, .ldc 127, 0, -2000000004), (85, .goto 11, 0, 0), (88, .aload_n 0, 0, 0), (89, .getfield 10, 4, 0), (92, .iload_n 1, 0, 0), (93, .invokevirtual 144, 33, 0), (96, .ireturn, 0, 0), (97, .iload_n 3, 0, 0), (98, .ifCond .eq 15, 0, 0), (101, .aload_n 0, 0, 0), (102, .getfield 10, 4, 0), (105, .getfield 147, 3, 3), (108, .iload_n 1, 0, 0), (109, .iaload, 0, 0), (110, .goto 5, 0, 0), (113, .ldc 127, 0, -2000000004), (115, .ireturn, 0, 0), (116, .iload_n 3, 0, 0), (117, .ifCond .eq 8, 0, 0), (120, .ldc 127, 0, -2000000004), (122, .goto 11, 0, 0), (125, .aload_n 0, 0, 0), (126, .getfield 10, 4, 0), (129, .iload_n 1, 0, 0), (130, .invokevirtual 150, 36, 0), (133, .ireturn, 0, 0), (134, .aload_n 0, 0, 0), (135, .getfield 10, 4, 0), (138, .iload_n 1, 0, 0), (139, .invokevirtual 153, 37, 0), (142, .ireturn, 0, 0), (143, .ldc 85, 0, -2000000001), (145, .ireturn, 0, 0)]
def K68 : List Ent := [(0, .iload_n 1, 0, 0), (1, .ifCond .lt 12, 0, 0), (4, .iload_n 2, 0, 0), (5, .iconst 0, 0, 0), (6, .iconst 4, 0, 0), (7, .invokestatic 120, 85, 0), (10, .ifCond .ne 6, 0, 0), (13, .ldc 85, 0, -2000000001), (15, .ireturn, 0, 0), (16, .iload_n 1, 0, 0), (17, .aload_n 0, 0, 0), (18, .getfield 10, 4, 0), (21, .getfield 156, 3, 6), (24, .if_icmp .lt 6, 0, 0), (27, .ldc 127, 0, -2000000004), (29, .ireturn, 0, 0), (30, .aload_n 0, 0, 0), (31, .getfield 10, 4, 0), (34, .getfield 159, 3, 5), (37, .iload_n 1, 0, 0), (38, .aaload, 0, 0), (39, .astore_n 3, 0, 0), (40, .iload_n 2, 0, 0), (41, .tableswitch 62 0 3 #[31, 36, 41, 54], 31, 0), (72, .aload_n 3, 0, 0), (73, .getfield 163, 1, 0), (76, .ireturn, 0, 0), (77, .aload_n 3, 0, 0), (78, .getfield 168, 1, 1), (81, .ireturn, 0, 0), (82, .aload_n 3, 0, 0), (83, .getfield 171, 1, 2), (86, .aload_n 0, 0, 0), (87, .getfield 10, 4, 0), (90, .getfield 174, 3, 7), (93, .isub, 0, 0), (94, .ireturn, 0, 0), (95, .aload_n 3, 0, 0), (96, .getfield 177, 1, 4), (99, .invokevirtual 90, 12, 0), (102, .ireturn, 0, 0), (103, .aload_n 3, 0, 0), (104, .getfield 180, 1, 3), (107, .ifCond .eq 7, 0, 0), (110, .iconst 1, 0, 0), (111, .goto 4, 0, 0), (114, .iconst 0, 0, 0), (115, .ireturn, 0, 0)]
def K69 : List Ent := [(0, .aload_n 0, 0, 0), (1, .getfield 10, 4, 0), (4, .iload_n 1, 0, 0), (5, .invokevirtual 81, 27, 0), (8, .ifCond .eq 19, 0, 0), (11, .aload_n 0, 0, 0), (12, .getfield 10, 4, 0), (15, .iload_n 2, 0, 0), (16, .invokevirtual 81, 27, 0), (19, .ifCond .eq 8, 0, 0), (22, .iload_n 1, 0, 0), (23, .iload_n 2, 0, 0), (24, .if_icmp .ne 6, 0, 0), (27, .ldc 85, 0, -2000000001), (29, .ireturn, 0, 0), (30, .aload_n 0, 0, 0), (31, .iload_n 1, 0, 0), (32, .iload_n 2, 0, 0), (33, .invokevirtual 184, 83, 0), (36, .istore 4, 0, 0), (38, .iload_n 3, 0, 0), (39, .tableswitch 74 0 2 #[25, 28, 49], 25, 0), (64, .iload 4, 0, 0), (66, .ireturn, 0, 0), (67, .aload_n 0, 0, 0), (68, .getfield 30, 4, 4), (71, .invokevirtual 90, 12, 0), (74, .aload_n 0, 0, 0), (75, .getfield 10, 4, 0), (78, .getfield 86, 3, 0), (81, .iload_n 1, 0, 0), (82, .aaload, 0, 0), (83, .invokevirtual 90, 12, 0), (86, .isub, 0, 0), (87, .ireturn, 0, 0), (88, .aload_n 0, 0, 0), (89, .getfield 30, 4, 4), (92, .aload_n 0, 0, 0), (93, .getfield 10, 4, 0), (96, .getfield 86, 3, 0), (99, .iload_n 2, 0, 0), (100, .aaload, 0, 0), (101, .invokevirtual 187, 9, 0), (104, .ifCond .eq 7, 0, 0), (107, .iconst 1, 0, 0), (108, .goto 4, 0, 0), (111, .iconst 0, 0, 0), (112, .ireturn, 0, 0), (113, .ldc 85, 0, -2000000001), (115, .ireturn, 0, 0)]
def K70 : List Ent := [(0, .aload_n 0, 0, 0), (1, .getfield 30, 4, 4), (4, .invokevirtual 191, 2, 0), (7, .iconst 0, 0, 0), (8, .istore_n 1, 0, 0), (9, .iload_n 1, 0, 0), (10, .bipush 6, 0, 0), (12, .if_icmp .ge 37, 0, 0), (15, .aload_n 0, 0, 0), (16, .getfield 10, 4, 0), (19, .iload_n 1, 0, 0), (20, .invokevirtual 81, 27, 0), (23, .ifCond .eq 20, 0, 0), (26, .aload_n 0, 0, 0), (27, .getfield 30, 4, 4), (30, .aload_n 0, 0, 0), (31, .getfield 10, 4, 0), (34, .getfield 86, 3, 0), (37, .iload_n 1, 0, 0), (38, .aaload, 0, 0), (39, .invokevirtual 194, 8, 0), (42, .pop, 0, 0), (43, .iinc 1 1, 0, 0), (46, .goto (-37), 0, 0), (49, .aload_n 0, 0, 0), (50, .getfield 30, 4, 4), (53, .invokevirtual 90, 12, 0), (56, .ireturn, 0, 0)]
def K71 : List Ent := [(0, .iconst 0, 0, 0), (1, .istore_n 1, 0, 0), (2, .iconst 0, 0, 0), (3, .istore_n 2, 0, 0), (4, .iload_n 2, 0, 0), (5, .aload_n 0, 0, 0), (6, .getfield 10, 4, 0), (9, .getfield 198, 3, 4), (12, .if_icmp .ge 20, 0, 0), (15, .iload_n 1, 0, 0), (16, .aload_n 0, 0, 0), (17, .getfield 10, 4, 0), (20, .iload_n 2, 0, 0), (21, .invokevirtual 201, 38, 0), (24, .iadd, 0, 0), (25, .istore_n 1, 0, 0), (26, .iinc 2 1, 0, 0), (29, .goto (-25), 0, 0), (32, .iload_n 1, 0, 0), (33, .ireturn, 0, 0)]
def K72 : List Ent := [(0, .aload_n 0, 0, 0), (1, .invokevirtual 41, 81, 0), (4, .invokevirtual 204, 52, 0), (7, .ireturn, 0, 0)]
def K73 : List Ent := [(0, .aload_n 0, 0, 0), (1, .getfield 10, 4, 0), (4, .iload_n 1, 0, 0), (5, .invokevirtual 81, 27, 0), (8, .ifCond .eq 13, 0, 0), (11, .iload_n 2, 0, 0), (12, .iconst 0, 0, 0), (13, .bipush 99, 0, 0), (15, .invokestatic 120, 85, 0), (18, .ifCond .ne 6, 0, 0), (21, .ldc 85, 0, -2000000001), (23, .ireturn, 0, 0), (24, .aload_n 0, 0, 0), (25, .getfield 30, 4, 4), (28, .aload_n 0, 0, 0), (29, .getfield 10, 4, 0), (32, .getfield 86, 3, 0), (35, .iload_n 1, 0, 0), (36, .aaload, 0, 0), (37, .invokevirtual 207, 1, 0), (40, .iconst 0, 0, 0), (41, .istore_n 3, 0, 0), (42, .iload_n 3, 0, 0), (43, .aload_n 0, 0, 0), (44, .getfield 10, 4, 0), (47, .getfield 156, 3, 6), (50, .if_icmp .ge 67, 0, 0), (53, .aload_n 0, 0, 0), (54, .getfield 10, 4, 0), (57, .getfield 159, 3, 5), (60, .iload_n 3, 0, 0), (61, .aaload, 0, 0), (62, .astore 4, 0, 0), (64, .aload 4, 0, 0), (66, .getfield 168, 1, 1), (69, .iload_n 1, 0, 0), (70, .if_icmp .ne 41, 0, 0), (73, .aload 4, 0, 0), (75, .getfield 180, 1, 3), (78, .ifCond .ne 33, 0, 0), (81, .aload 4, 0, 0), (83, .getfield 171, 1, 2), (86, .aload_n 0, 0, 0), (87, .getfield 10, 4, 0), (90, .getfield 174, 3, 7), (93, .iload_n 2, 0, 0), (94, .iadd, 0, 0), (95, .if_icmp .gt 16, 0, 0), (98, .aload_n 0, 0, 0), (99, .getfield 30, 4, 4), (102, .aload 4, 0, 0), (104, .getfield 177, 1, 4), (107, .invokevirtual 194, 8, 0), (110, .pop, 0, 0), (111, .iinc 3 1, 0, 0), (114, .goto (-72), 0, 0), (117, .aload_n 0, 0, 0), (118, .getfield 30, 4, 4), (121, .invokevirtual 90, 12, 0), (124, .ireturn, 0, 0)]
def K74 : List Ent := [(0, .iload_n 1, 0, 0), (1, .iconst 0, 0, 0), (2, .iconst 1, 0, 0), (3, .invokestatic 120, 85, 0), (6, .ifCond .ne 6, 0, 0), (9, .ldc 85, 0, -2000000001), (11, .ireturn, 0, 0), (12, .iconst (-1), 0, 0), (13, .istore_n 2, 0, 0), (14, .iconst (-1), 0, 0), (15, .istore_n 3, 0, 0), (16, .iconst 0, 0, 0), (17, .istore 4, 0, 0), (19, .iload 4, 0, 0), (21, .bipush 6, 0, 0), (23, .if_icmp .ge 45, 0, 0), (26, .aload_n 0, 0, 0), (27, .getfield 10, 4, 0), (30, .iload 4, 0, 0), (32, .invokevirtual 81, 27, 0), (35, .ifCond .eq 12, 0, 0), (38, .aload_n 0, 0, 0), (39, .iload 4, 0, 0), (41, .invokevirtual 211, 84, 0), (44, .goto 4, 0, 0), (47, .iconst (-1), 0, 0), (48, .istore 5, 0, 0), (50, .iload 5, 0, 0), (52, .iload_n 3, 0, 0), (53, .if_icmp .le 9, 0, 0), (56, .iload 4, 0, 0), (58, .istore_n 2, 0, 0), (59, .iload 5, 0, 0), (61, .istore_n 3, 0, 0), (62, .iinc 4 1, 0, 0), (65, .goto (-46), 0, 0), (68, .iload_n 1, 0, 0), (69, .ifCond .ne 7, 0, 0), (72, .iload_n 2, 0, 0), (73, .goto 4, 0, 0), (76, .iload_n 3, 0, 0), (77, .ireturn, 0, 0)]
def K75 : List Ent := [(0, .iload_n 1, 0, 0), (1, .tableswitch 144 0 10 #[59, 67, 75, 83, 91, 99, 107, 115, 123, 128, 136], 59, 0), (60, .aload_n 0, 0, 0), (61, .getfield 10, 4, 0), (64, .invokevirtual 214, 30, 0), (67, .ireturn, 0, 0), (68, .aload_n 0, 0, 0), (69, .getfield 10, 4, 0), (72, .getfield 198, 3, 4), (75, .ireturn, 0, 0), (76, .aload_n 0, 0, 0), (77, .getfield 10, 4, 0), (80, .invokevirtual 217, 31, 0), (83, .ireturn, 0, 0), (84, .aload_n 0, 0, 0), (85, .getfield 10, 4, 0), (88, .getfield 156, 3, 6), (91, .ireturn, 0, 0), (92, .aload_n 0, 0, 0), (93, .getfield 10, 4, 0), (96, .getfield 174, 3, 7), (99, .ireturn, 0, 0), (100, .aload_n 0, 0, 0), (101, .getfield 10, 4, 0), (104, .getfield 220, 3, 8), (107, .ireturn, 0, 0), (108, .aload_n 0, 0, 0), (109, .getfield 10, 4, 0), (112, .getfield 223, 3, 9), (115, .ireturn, 0, 0), (116, .aload_n 0, 0, 0), (117, .getfield 10, 4, 0), (120, .getfield 226, 3, 10), (123, .ireturn, 0, 0), (124, .aload_n 0, 0, 0), (125, .getfield 23, 4, 3), (128, .ireturn, 0, 0), (129, .aload_n 0, 0, 0), (130, .getfield 37, 4, 5), (133, .getfield 229, 2, 1), (136, .ireturn, 0, 0), (137, .aload_n 0, 0, 0), (138, .getfield 10, 4, 0), (141, .getfield 232, 3, 1), (144, .ireturn, 0, 0), (145, .ldc 85, 0, -2000000001), (147, .ireturn, 0, 0)]
def K76 : List Ent := [(0, .aload_n 0, 0, 0), (1, .getfield 23, 4, 3), (4, .ifCond .ne 6, 0, 0), (7, .ldc 235, 0, -2000000002), (9, .ireturn, 0, 0), (10, .aload_n 0, 0, 0), (11, .dup, 0, 0), (12, .getfield 23, 4, 3), (15, .iconst 1, 0, 0), (16, .isub, 0, 0), (17, .putfield 23, 4, 3), (20, .aload_n 0, 0, 0), (21, .getfield 19, 4, 2), (24, .aload_n 0, 0, 0), (25, .getfield 23, 4, 3), (28, .aaload, 0, 0), (29, .astore_n 1, 0, 0), (30, .aload_n 0, 0, 0), (31, .getfield 19, 4, 2), (34, .aload_n 0, 0, 0), (35, .getfield 23, 4, 3), (38, .aload_n 0, 0, 0), (39, .getfield 10, 4, 0), (42, .aastore, 0, 0), (43, .aload_n 0, 0, 0), (44, .aload_n 1, 0, 0), (45, .putfield 10, 4, 0), (48, .aload_n 0, 0, 0), (49, .getfield 23, 4, 3), (52, .ireturn, 0, 0)]
def K77 : List Ent := [(0, .iload_n 1, 0, 0), (1, .bipush 32, 0, 0), (3, .bipush 126, 0, 0), (5, .invokestatic 120, 85, 0), (8, .ifCond .ne 6, 0, 0), (11, .ldc 85, 0, -2000000001), (13, .ireturn, 0, 0), (14, .aload_n 0, 0, 0), (15, .getfield 37, 4, 5), (18, .iload_n 1, 0, 0), (19, .invokevirtual 236, 17, 0), (22, .ireturn, 0, 0)]
def K78 : List Ent := [(0, .aload_n 0, 0, 0), (1, .getfield 37, 4, 5), (4, .getfield 229, 2, 1), (7, .istore_n 1, 0, 0), (8, .aload_n 0, 0, 0), (9, .getfield 37, 4, 5), (12, .iconst 0, 0, 0), (13, .putfield 229, 2, 1), (16, .iload_n 1, 0, 0), (17, .ireturn, 0, 0)]
def K79 : List Ent := [(0, .iload_n 1, 0, 0), (1, .iconst 0, 0, 0), (2, .iconst 2, 0, 0), (3, .invokestatic 120, 85, 0), (6, .ifCond .ne 6, 0, 0), (9, .ldc 85, 0, -2000000001), (11, .ireturn, 0, 0), (12, .aload_n 0, 0, 0), (13, .getfield 37, 4, 5), (16, .aload_n 0, 0, 0), (17, .invokevirtual 41, 81, 0), (20, .invokevirtual 239, 18, 0), (23, .aload_n 0, 0, 0), (24, .getfield 37, 4, 5), (27, .getfield 243, 2, 3), (30, .iconst (-1), 0, 0), (31, .if_icmp .ne 6, 0, 0), (34, .ldc 127, 0, -2000000004), (36, .ireturn, 0, 0), (37, .iload_n 1, 0, 0), (38, .lookupswitch 42 #[(0, 26), (1, 34)], 26, 0), (64, .aload_n 0, 0, 0), (65, .getfield 37, 4, 5), (68, .getfield 243, 2, 3), (71, .ireturn, 0, 0), (72, .aload_n 0, 0, 0), (73, .getfield 37, 4, 5), (76, .getfield 246, 2, 4), (79, .ireturn, 0, 0), (80, .aload_n 0, 0, 0), (81, .getfield 37, 4, 5), (84, .getfield 249, 2, 5), (87, .ireturn, 0, 0)]
def K80 : List Ent := [(0, .aload_n 0, 0, 0), (1, .getfield 37, 4, 5), (4, .aload_n 0, 0, 0), (5, .invokevirtual 41, 81, 0), (8, .invokevirtual 239, 18, 0), (11, .aload_n 0, 0, 0), (12, .aload_n 0, 0, 0), (13, .getfield 37, 4, 5), (16, .getfield 243, 2, 3), (19, .iconst (-1), 0, 0), (20, .if_icmp .ne 13, 0, 0), (23, .aload_n 0, 0, 0), (24, .getfield 37, 4, 5), (27, .getfield 252, 2, 2), (30, .goto 5, 0, 0), (33, .ldc 235, 0, -2000000002), (35, .invokevirtual 49, 82, 0), (38, .ireturn, 0, 0)]
def K81 : List Ent := [(0, .aload_n 0, 0, 0), (1, .getfield 16, 4, 1), (4, .aload_n 0, 0, 0), (5, .getfield 10, 4, 0), (8, .invokevirtual 255, 26, 0), (11, .aload_n 0, 0, 0), (12, .getfield 16, 4, 1), (15, .areturn, 0, 0)]
def K82 : List Ent := [(0, .iload_n 1, 0, 0), (1, .invokestatic 257, 86, 0), (4, .ifCond .eq 5, 0, 0), (7, .iload_n 1, 0, 0), (8, .ireturn, 0, 0), (9, .aload_n 0, 0, 0), (10, .getfield 23, 4, 3), (13, .iconst 4, 0, 0), (14, .if_icmp .ge 26, 0, 0), (17, .aload_n 0, 0, 0), (18, .getfield 19, 4, 2), (21, .aload_n 0, 0, 0), (22, .getfield 23, 4, 3), (25, .aaload, 0, 0), (26, .astore_n 2, 0, 0), (27, .aload_n 0, 0, 0), (28, .dup, 0, 0), (29, .getfield 23, 4, 3), (32, .iconst 1, 0, 0), (33, .iadd, 0, 0), (34, .putfield 23, 4, 3), (37, .goto 37, 0, 0), (40, .aload_n 0, 0, 0), (41, .getfield 19, 4, 2), (44, .iconst 0, 0, 0), (45, .aaload, 0, 0), (46, .astore_n 2, 0, 0), (47, .iconst 1, 0, 0), (48, .istore_n 3, 0, 0), (49, .iload_n 3, 0, 0), (50, .iconst 4, 0, 0), (51, .if_icmp .ge 23, 0, 0), (54, .aload_n 0, 0, 0), (55, .getfield 19, 4, 2), (58, .iload_n 3, 0, 0), (59, .iconst 1, 0, 0), (60, .isub, 0, 0), (61, .aload_n 0, 0, 0), (62, .getfield 19, 4, 2), (65, .iload_n 3, 0, 0), (66, .aaload, 0, 0), (67, .aastore, 0, 0), (68, .iinc 3 1, 0, 0), (71, .goto (-22), 0, 0), (74, .aload_n 0, 0, 0), (75, .getfield 19, 4, 2), (78, .aload_n 0, 0, 0), (79, .getfield 23, 4, 3), (82, .iconst 1, 0, 0), (83, .isub, 0, 0), (84, .aload_n 0, 0, 0), (85, .getfield 10, 4, 0), (88, .aastore, 0, 0), (89, .aload_n 0, 0, 0), (90, .aload_n 0, 0, 0), (91, .getfield 16, 4, 1), (94, .putfield 10, 4, 0), (97, .aload_n 0, 0, 0), (98, .aload_n 2, 0, 0), (99, .putfield 16, 4, 1), (102, .iload_n 1, 0, 0), (103, .ireturn, 0, 0)]
def K83 : List Ent := [(0, .aload_n 0, 0, 0), (1, .getfield 30, 4, 4), (4, .aload_n 0, 0, 0), (5, .getfield 10, 4, 0), (8, .getfield 86, 3, 0), (11, .iload_n 1, 0, 0), (12, .aaload, 0, 0), (13, .invokevirtual 207, 1, 0), (16, .aload_n 0, 0, 0), (17, .getfield 30, 4, 4), (20, .aload_n 0, 0, 0), (21, .getfield 10, 4, 0), (24, .getfield 86, 3, 0), (27, .iload_n 2, 0, 0), (28, .aaload, 0, 0), (29, .invokevirtual 194, 8, 0), (32, .ireturn, 0, 0)]
def K84 : List Ent := [(0, .iconst 0, 0, 0), (1, .istore_n 2, 0, 0), (2, .iconst 0, 0, 0), (3, .istore_n 3, 0, 0), (4, .iload_n 3, 0, 0), (5, .bipush 6, 0, 0), (7, .if_icmp .ge 34, 0, 0), (10, .iload_n 3, 0, 0), (11, .iload_n 1, 0, 0), (12, .if_icmp .eq 23, 0, 0), (15, .aload_n 0, 0, 0), (16, .getfield 10, 4, 0), (19, .iload_n 3, 0, 0), (20, .invokevirtual 81, 27, 0), (23, .ifCond .eq 12, 0, 0), (26, .iload_n 2, 0, 0), (27, .aload_n 0, 0, 0), (28, .iload_n 1, 0, 0), (29, .iload_n 3, 0, 0), (30, .invokevirtual 184, 83, 0), (33, .iadd, 0, 0), (34, .istore_n 2, 0, 0), (35, .iinc 3 1, 0, 0), (38, .goto (-34), 0, 0), (41, .iload_n 2, 0, 0), (42, .ireturn, 0, 0)]
def K85 : List Ent := [(0, .iload_n 0, 0, 0), (1, .iload_n 1, 0, 0), (2, .if_icmp .lt 12, 0, 0), (5, .iload_n 0, 0, 0), (6, .iload_n 2, 0, 0), (7, .if_icmp .gt 7, 0, 0), (10, .iconst 1, 0, 0), (11, .goto 4, 0, 0), (14, .iconst 0, 0, 0), (15, .ireturn, 0, 0)]
def K86 : List Ent := [(0, .iload_n 0, 0, 0), (1, .ldc 127, 0, -2000000004), (3, .ldc 85, 0, -2000000001), (5, .invokestatic 120, 85, 0), (8, .ireturn, 0, 0)]
def K87 : List Ent := [(0, .aload_n 0, 0, 0), (1, .invokespecial 1, 1001, 0), (4, .aload_n 0, 0, 0), (5, .sipush 420, 0, 0), (8, .newarray .int, 0, 0), (10, .putfield 7, 5, 0), (13, .aload_n 0, 0, 0), (14, .sipush 1680, 0, 0), (17, .newarray .int, 0, 0), (19, .putfield 13, 5, 1), (22, .aload_n 0, 0, 0), (23, .sipush 420, 0, 0), (26, .newarray .int, 0, 0), (28, .putfield 16, 5, 2), (31, .aload_n 0, 0, 0), (32, .sipush 420, 0, 0), (35, .newarray .int, 0, 0), (37, .putfield 19, 5, 3), (40, .aload_n 0, 0, 0), (41, .bipush 60, 0, 0), (43, .newarray .int, 0, 0), (45, .putfield 22, 5, 6), (48, .aload_n 0, 0, 0), (49, .iconst 3, 0, 0), (50, .newarray .int, 0, 0), (52, .putfield 25, 5, 14), (55, .aload_n 0, 0, 0), (56, .getfield 7, 5, 0), (59, .bipush 8, 0, 0), (61, .iconst 1, 0, 0), (62, .iastore, 0, 0), (63, .aload_n 0, 0, 0), (64, .getfield 7, 5, 0), (67, .bipush 34, 0, 0), (69, .iconst 2, 0, 0), (70, .iastore, 0, 0), (71, .aload_n 0, 0, 0), (72, .getfield 7, 5, 0), (75, .bipush 6, 0, 0), (77, .iconst 2, 0, 0), (78, .iastore, 0, 0), (79, .return_, 0, 0)]
def K88 : List Ent := [(0, .iload_n 0, 0, 0), (1, .iload_n 1, 0, 0), (2, .if_icmp .lt 12, 0, 0), (5, .iload_n 0, 0, 0), (6, .iload_n 2, 0, 0), (7, .if_icmp .gt 7, 0, 0), (10, .iconst 1, 0, 0), (11, .goto 4, 0, 0), (14, .iconst 0, 0, 0), (15, .ireturn, 0, 0)]
def K89 : List Ent := [(0, .iconst 0, 0, 0), (1, .istore_n 2, 0, 0), (2, .iload_n 2, 0, 0), (3, .sipush 420, 0, 0), (6, .if_icmp .ge 15, 0, 0), (9, .aload_n 1, 0, 0), (10, .iload_n 2, 0, 0), (11, .aload_n 0, 0, 0), (12, .iload_n 2, 0, 0), (13, .iaload, 0, 0), (14, .iastore, 0, 0), (15, .iinc 2 1, 0, 0), (18, .goto (-16), 0, 0), (21, .return_, 0, 0)]
def K90 : List Ent := [(0, .aload_n 0, 0, 0), (1, .getfield 28, 5, 5), (4, .ifCond .eq 4, 0, 0), (7, .return_, 0, 0), (8, .aload_n 0, 0, 0), (9, .getfield 32, 5, 4), (12, .iconst 4, 0, 0), (13, .if_icmp .ne 44, 0, 0), (16, .iconst 0, 0, 0), (17, .istore_n 1, 0, 0), (18, .iload_n 1, 0, 0), (19, .sipush 1260, 0, 0), (22, .if_icmp .ge 25, 0, 0), (25, .aload_n 0, 0, 0), (26, .getfield 13, 5, 1), (29, .iload_n 1, 0, 0), (30, .aload_n 0, 0, 0), (31, .getfield 13, 5, 1), (34, .iload_n 1, 0, 0), (35, .sipush 420, 0, 0), (38, .iadd, 0, 0), (39, .iaload, 0, 0), (40, .iastore, 0, 0), (41, .iinc 1 1, 0, 0), (44, .goto (-26), 0, 0), (47, .aload_n 0, 0, 0), (48, .dup, 0, 0), (49, .getfield 32, 5, 4), (52, .iconst 1, 0, 0), (53, .isub, 0, 0), (54, .putfield 32, 5, 4), (57, .iconst 0, 0, 0), (58, .istore_n 1, 0, 0), (59, .iload_n 1, 0, 0), (60, .sipush 420, 0, 0), (63, .if_icmp .ge 30, 0, 0), (66, .aload_n 0, 0, 0), (67, .getfield 13, 5, 1), (70, .sipush 420, 0, 0), (73, .aload_n 0, 0, 0), (74, .getfield 32, 5, 4), (77, .imul, 0, 0), (78, .iload_n 1, 0, 0), (79, .iadd, 0, 0), (80, .aload_n 0, 0, 0), (81, .getfield 7, 5, 0), (84, .iload_n 1, 0, 0), (85, .iaload, 0, 0), (86, .iastore, 0, 0), (87, .iinc 1 1, 0, 0), (90, .goto (-31), 0, 0), (93, .aload_n 0, 0, 0), (94, .dup, 0, 0), (95, .getfield 32, 5, 4), (98, .iconst 1, 0, 0), (99, .iadd, 0, 0), (100, .putfield 32, 5, 4), (103, .return_, 0, 0)]
def K91 : List Ent := [(0, .bipush 8, 0, 0), (2, .bipush 26, 0, 0), (4, .iload_n 0, 0, 0), (5, .imul, 0, 0), (6, .iadd, 0, 0), (7, .iconst 1, 0, 0), (8, .iadd, 0, 0), (9, .ireturn, 0, 0)]
def K92 : List Ent := [(0, .sipush 180, 0, 0), (3, .bipush 30, 0, 0), (5, .iload_n 0, 0, 0), (6, .imul, 0, 0), (7, .iadd, 0, 0), (8, .iconst 5, 0, 0), (9, .iadd, 0, 0), (10, .ireturn, 0, 0)]
def K93 : List Ent := [(0, .iload_n 0, 0, 0), (1, .iconst 1, 0, 0), (2, .iadd, 0, 0), (3, .iconst 3, 0, 0), (4, .iload_n 1, 0, 0), (5, .imul, 0, 0), (6, .iadd, 0, 0), (7, .ireturn, 0, 0)]
def K94 : List Ent := [(0, .iload_n 1, 0, 0), (1, .iconst 0, 0, 0), (2, .iconst 5, 0, 0), (3, .invokestatic 36, 88, 0), (6, .ifCond .eq 22, 0, 0), (9, .aload_n 0, 0, 0), (10, .getfield 7, 5, 0), (13, .bipush 8, 0, 0), (15, .bipush 26, 0, 0), (17, .iload_n 1, 0, 0), (18, .imul, 0, 0), (19, .iadd, 0, 0), (20, .iaload, 0, 0), (21, .ifCond .le 7, 0, 0), (24, .iconst 1, 0, 0), (25, .goto 4, 0, 0), (28, .iconst 0, 0, 0), (29, .ireturn, 0, 0)]
def K95 : List Ent := [(0, .iload_n 1, 0, 0), (1, .ifCond .lt 17, 0, 0), (4, .iload_n 1, 0, 0), (5, .aload_n 0, 0, 0), (6, .getfield 7, 5, 0), (9, .iconst 0, 0, 0), (10, .iaload, 0, 0), (11, .if_icmp .ge 7, 0, 0), (14, .iconst 1, 0, 0), (15, .goto 4, 0, 0), (18, .iconst 0, 0, 0), (19, .ireturn, 0, 0)]
def K96 : List Ent := [(0, .aload_n 0, 0, 0), (1, .getfield 7, 5, 0), (4, .sipush 164, 0, 0), (7, .iconst 2, 0, 0), (8, .iload_n 1, 0, 0), (9, .imul, 0, 0), (10, .iadd, 0, 0), (11, .iload_n 2, 0, 0), (12, .iadd, 0, 0), (13, .iaload, 0, 0), (14, .ireturn, 0, 0)]
def K97 : List Ent := [(0, .aload_n 0, 0, 0), (1, .iload_n 1, 0, 0), (2, .iconst 1, 0, 0), (3, .invokevirtual 40, 96, 0), (6, .ifCond .lt 7, 0, 0), (9, .iconst 1, 0, 0), (10, .goto 4, 0, 0), (13, .iconst 0, 0, 0), (14, .ireturn, 0, 0)]
def K98 : List Ent := [(0, .iconst 0, 0, 0), (1, .istore_n 3, 0, 0), (2, .iconst 0, 0, 0), (3, .istore 4, 0, 0), (5, .iload 4, 0, 0), (7, .bipush 8, 0, 0), (9, .if_icmp .ge 69, 0, 0), (12, .iload_n 1, 0, 0), (13, .iload 4, 0, 0), (15, .invokestatic 44, 93, 0), (18, .istore 5, 0, 0), (20, .iload_n 3, 0, 0), (21, .aload_n 0, 0, 0), (22, .getfield 7, 5, 0), (25, .iload 5, 0, 0), (27, .iaload, 0, 0), (28, .ifCond .ne 7, 0, 0), (31, .iconst 0, 0, 0), (32, .goto 38, 0, 0), (35, .iload_n 2, 0, 0), (36, .ifCond .ne 25, 0, 0), (39, .aload_n 0, 0, 0), (40, .getfield 7, 5, 0), (43, .iload 5, 0, 0), (45, .iconst 1, 0, 0), (46, .iadd, 0, 0), (47, .iaload, 0, 0), (48, .aload_n 0, 0, 0), (49, .getfield 7, 5, 0), (52, .iload 5, 0, 0), (54, .iconst 2, 0, 0), (55, .iadd, 0, 0), (56, .iaload, 0, 0), (57, .isub, 0, 0), (58, .goto 12, 0, 0), (61, .aload_n 0, 0, 0), (62, .getfield 7, 5, 0), (65, .iload 5, 0, 0), (67, .iload_n 2, 0, 0), (68, .iadd, 0, 0), (69, .iaload, 0, 0), (70, .iadd, 0, 0), (71, .istore_n 3, 0, 0), (72, .iinc 4 1, 0, 0), (75, .goto (-70), 0, 0), (78, .iload_n 3, 0, 0), (79, .ireturn, 0, 0)]
def K99 : List Ent := [(0, .iconst 0, 0, 0), (1, .istore_n 1, 0, 0), (2, .iload_n 0, 0, 0), (3, .istore_n 2, 0, 0), (4, .iload_n 2, 0, 0), (5, .ifCond .eq 15, 0, 0), (8, .iinc 1 1, 0, 0), (11, .iload_n 2, 0, 0), (12, .iload_n 2, 0, 0), (13, .iconst 1, 0, 0), (14, .isub, 0, 0), (15, .iand, 0, 0), (16, .istore_n 2, 0, 0), (17, .goto (-13), 0, 0), (20, .iload_n 1, 0, 0), (21, .ireturn, 0, 0)]
def K100 : List Ent := [(0, .iconst 0, 0, 0), (1, .istore_n 1, 0, 0), (2, .iconst 0, 0, 0), (3, .istore_n 2, 0, 0), (4, .iload_n 2, 0, 0), (5, .bipush 6, 0, 0), (7, .if_icmp .ge 27, 0, 0), (10, .iload_n 1, 0, 0), (11, .aload_n 0, 0, 0), (12, .iload_n 2, 0, 0), (13, .invokevirtual 47, 94, 0), (16, .ifCond .eq 9, 0, 0), (19, .iconst 1, 0, 0), (20, .iload_n 2, 0, 0), (21, .ishl, 0, 0), (22, .goto 4, 0, 0), (25, .iconst 0, 0, 0), (26, .ior, 0, 0), (27, .istore_n 1, 0, 0), (28, .iinc 2 1, 0, 0), (31, .goto (-27), 0, 0), (34, .iload_n 1, 0, 0), (35, .ireturn, 0, 0)]
def K101 : List Ent := [(0, .iconst 0, 0, 0), (1, .istore_n 1, 0, 0), (2, .iconst 0, 0, 0), (3, .istore_n 2, 0, 0), (4, .iload_n 2, 0, 0), (5, .aload_n 0, 0, 0), (6, .getfield 7, 5, 0), (9, .iconst 0, 0, 0), (10, .iaload, 0, 0), (11, .if_icmp .ge 25, 0, 0), (14, .iload_n 1, 0, 0), (15, .aload_n 0, 0, 0), (16, .iload_n 2, 0, 0), (17, .invokevirtual 51, 97, 0), (20, .ifCond .eq 7, 0, 0), (23, .iconst 0, 0, 0), (24, .goto 4, 0, 0), (27, .iconst 1, 0, 0), (28, .iadd, 0, 0), (29, .istore_n 1, 0, 0), (30, .iinc 2 1, 0, 0), (33, .goto (-29), 0, 0), (36, .iload_n 1, 0, 0), (37, .ireturn, 0, 0)]
def K102_0 : List Ent := [(0, .aload_n 0, 0, 0), (1, .getfield 7, 5, 0), (4, .iload_n 1, 0, 0), (5, .iaload, 0, 0), (6, .aload_n 0, 0, 0), (7, .getfield 7, 5, 0), (10, .iload_n 2, 0, 0), (11, .iaload, 0, 0), (12, .ior, 0, 0), (13, .istore_n 3, 0, 0), (14, .iconst 0, 0, 0), (15, .istore 4, 0, 0), (17, .iconst 0, 0, 0), (18, .istore 5, 0, 0), (20, .iload 5, 0, 0), (22, .bipush 8, 0, 0), (24, .if_icmp .ge 134, 0, 0), (27, .iload_n 1, 0, 0), (28, .iload 5, 0, 0), (30, .invokestatic 44, 93, 0), (33, .istore 6, 0, 0), (35, .iload_n 2, 0, 0), (36, .iload 5, 0, 0), (38, .invokestatic 44, 93, 0), (41, .istore 7, 0, 0), (43, .aload_n 0, 0, 0), (44, .getfield 7, 5, 0), (47, .iload 6, 0, 0), (49, .iaload, 0, 0), (50, .istore 8, 0, 0), (52, .aload_n 0, 0, 0), (53, .getfield 7, 5, 0), (56, .iload 7, 0, 0), (58, .iaload, 0, 0), (59, .iload 8, 0, 0), (61, .if_icmp .le 53, 0, 0), (64, .aload_n 0, 0, 0), (65, .getfield 7, 5, 0), (68, .iload 6, 0, 0), (70, .aload_n 0, 0, 0)]
def K102_1 : List Ent := [(71, .getfield 7, 5, 0), (74, .iload 7, 0, 0), (76, .iaload, 0, 0), (77, .iastore, 0, 0), (78, .aload_n 0, 0, 0), (79, .getfield 7, 5, 0), (82, .iload 6, 0, 0), (84, .iconst 1, 0, 0), (85, .iadd, 0, 0), (86, .aload_n 0, 0, 0), (87, .getfield 7, 5, 0), (90, .iload 7, 0, 0), (92, .iconst 1, 0, 0), (93, .iadd, 0, 0), (94, .iaload, 0, 0), (95, .iastore, 0, 0), (96, .aload_n 0, 0, 0), (97, .getfield 7, 5, 0), (100, .iload 6, 0, 0), (102, .iconst 2, 0, 0), (103, .iadd, 0, 0), (104, .aload_n 0, 0, 0), (105, .getfield 7, 5, 0), (108, .iload 7, 0, 0), (110, .iconst 2, 0, 0), (111, .iadd, 0, 0), (112, .iaload, 0, 0), (113, .iastore, 0, 0), (114, .iload_n 3, 0, 0), (115, .iload 5, 0, 0), (117, .ishr, 0, 0), (118, .iconst 1, 0, 0), (119, .iand, 0, 0), (120, .iconst 1, 0, 0), (121, .if_icmp .ne 9, 0, 0), (124, .aload_n 0, 0, 0), (125, .iload 6, 0, 0), (127, .invokevirtual 54, 103, 0), (130, .iload 4, 0, 0), (132, .aload_n 0, 0, 0)]
def K102_2 : List Ent := [(133, .getfield 7, 5, 0), (136, .iload 6, 0, 0), (138, .iaload, 0, 0), (139, .iload 8, 0, 0), (141, .if_icmp .eq 7, 0, 0), (144, .iconst 1, 0, 0), (145, .goto 4, 0, 0), (148, .iconst 0, 0, 0), (149, .iadd, 0, 0), (150, .istore 4, 0, 0), (152, .iinc 5 1, 0, 0), (155, .goto (-135), 0, 0), (158, .aload_n 0, 0, 0), (159, .getfield 7, 5, 0), (162, .iload_n 1, 0, 0), (163, .iload_n 3, 0, 0), (164, .iastore, 0, 0), (165, .iload 4, 0, 0), (167, .ireturn, 0, 0)]
def K102 : List Ent := K102_0 ++ (K102_1 ++ (K102_2))
def K103 : List Ent := [(0, .aload_n 0, 0, 0), (1, .getfield 7, 5, 0), (4, .iload_n 1, 0, 0), (5, .iconst 0, 0, 0), (6, .iastore, 0, 0), (7, .aload_n 0, 0, 0), (8, .getfield 7, 5, 0), (11, .iload_n 1, 0, 0), (12, .iconst 1, 0, 0), (13, .iadd, 0, 0), (14, .iconst 0, 0, 0), (15, .iastore, 0, 0), (16, .aload_n 0, 0, 0), (17, .getfield 7, 5, 0), (20, .iload_n 1, 0, 0), (21, .iconst 2, 0, 0), (22, .iadd, 0, 0), (23, .iconst 0, 0, 0), (24, .iastore, 0, 0), (25, .return_, 0, 0)]
def K104 : List Ent := [(0, .aload_n 0, 0, 0), (1, .getfield 7, 5, 0), (4, .iload_n 1, 0, 0), (5, .iaload, 0, 0), (6, .aload_n 0, 0, 0), (7, .getfield 7, 5, 0), (10, .iload_n 2, 0, 0), (11, .iaload, 0, 0), (12, .if_icmp .ne 7, 0, 0), (15, .iconst 1, 0, 0), (16, .goto 4, 0, 0), (19, .iconst 0, 0, 0), (20, .istore_n 3, 0, 0), (21, .iconst 0, 0, 0), (22, .istore 4, 0, 0), (24, .iload 4, 0, 0), (26, .bipush 8, 0, 0), (28, .if_icmp .ge 44, 0, 0), (31, .iload_n 3, 0, 0), (32, .ifCond .eq 32, 0, 0), (35, .aload_n 0, 0, 0), (36, .getfield 7, 5, 0), (39, .iload_n 1, 0, 0), (40, .iload 4, 0, 0), (42, .invokestatic 44, 93, 0), (45, .iaload, 0, 0), (46, .aload_n 0, 0, 0), (47, .getfield 7, 5, 0), (50, .iload_n 2, 0, 0), (51, .iload 4, 0, 0), (53, .invokestatic 44, 93, 0), (56, .iaload, 0, 0), (57, .if_icmp .ne 7, 0, 0), (60, .iconst 1, 0, 0), (61, .goto 4, 0, 0), (64, .iconst 0, 0, 0), (65, .istore_n 3, 0, 0), (66, .iinc 4 1, 0, 0), (69, .goto (-45), 0, 0), (72, .iload_n 3, 0, 0), (73, .ireturn, 0, 0)]
def K105 : List Ent := [(0, .aload_n 0, 0, 0), (1, .iload_n 1, 0, 0), (2, .invokevirtual 47, 94, 0), (5, .ifCond .ne 6, 0, 0), (8, .ldc 58, 0, -2000000001), (10, .ireturn, 0, 0), (11, .aload_n 0, 0, 0), (12, .getfield 7, 5, 0), (15, .iconst 0, 0, 0), (16, .iaload, 0, 0), (17, .istore_n 2, 0, 0), (18, .iload_n 2, 0, 0), (19, .bipush 8, 0, 0), (21, .if_icmp .ne 6, 0, 0), (24, .ldc 59, 0, -2000000003), (26, .ireturn, 0, 0), (27, .aload_n 0, 0, 0), (28, .invokevirtual 60, 90, 0), (31, .aload_n 0, 0, 0), (32, .getfield 7, 5, 0), (35, .sipush 164, 0, 0), (38, .iconst 2, 0, 0), (39, .iload_n 2, 0, 0), (40, .imul, 0, 0), (41, .iadd, 0, 0), (42, .iconst 0, 0, 0), (43, .iadd, 0, 0), (44, .iload_n 1, 0, 0), (45, .iastore, 0, 0), (46, .aload_n 0, 0, 0), (47, .getfield 7, 5, 0), (50, .sipush 164, 0, 0), (53, .iconst 2, 0, 0), (54, .iload_n 2, 0, 0), (55, .imul, 0, 0), (56, .iadd, 0, 0), (57, .iconst 1, 0, 0), (58, .iadd, 0, 0), (59, .iconst (-1), 0, 0), (60, .iastore, 0, 0), (61, .aload_n 0, 0, 0), (62, .getfield 7, 5, 0), (65, .iload_n 1, 0, 0), (66, .invokestatic 63, 91, 0), (69, .iload_n 2, 0, 0), (70, .invokestatic 44, 93, 0), (73, .iconst 1, 0, 0), (74, .iastore, 0, 0), (75, .aload_n 0, 0, 0), (76, .getfield 7, 5, 0), (79, .iconst 0, 0, 0), (80, .dup2, 0, 0), (81, .iaload, 0, 0), (82, .iconst 1, 0, 0), (83, .iadd, 0, 0), (84, .iastore, 0, 0), (85, .iload_n 2, 0, 0), (86, .ireturn, 0, 0)]
def K106 : List Ent := [(0, .aload_n 0, 0, 0), (1, .iload_n 1, 0, 0), (2, .iconst 0, 0, 0), (3, .invokevirtual 40, 96, 0), (6, .invokestatic 63, 91, 0), (9, .iload_n 1, 0, 0), (10, .invokestatic 44, 93, 0), (13, .ireturn, 0, 0)]
def K107 : List Ent := [(0, .aload_n 0, 0, 0), (1, .invokevirtual 60, 90, 0), (4, .aload_n 0, 0, 0), (5, .iload_n 1, 0, 0), (6, .invokevirtual 67, 106, 0), (9, .istore 4, 0, 0), (11, .aload_n 0, 0, 0), (12, .getfield 7, 5, 0), (15, .iload 4, 0, 0), (17, .dup2, 0, 0), (18, .iaload, 0, 0), (19, .iconst 1, 0, 0), (20, .iadd, 0, 0), (21, .iastore, 0, 0), (22, .aload_n 0, 0, 0), (23, .getfield 7, 5, 0), (26, .iload 4, 0, 0), (28, .iconst 1, 0, 0), (29, .iadd, 0, 0), (30, .dup2, 0, 0), (31, .iaload, 0, 0), (32, .iload_n 2, 0, 0), (33, .iadd, 0, 0), (34, .iastore, 0, 0), (35, .aload_n 0, 0, 0), (36, .getfield 7, 5, 0), (39, .iload 4, 0, 0), (41, .iconst 2, 0, 0), (42, .iadd, 0, 0), (43, .dup2, 0, 0), (44, .iaload, 0, 0), (45, .iload_n 3, 0, 0), (46, .iadd, 0, 0), (47, .iastore, 0, 0), (48, .aload_n 0, 0, 0), (49, .aload_n 0, 0, 0), (50, .iload_n 1, 0, 0), (51, .iconst 0, 0, 0), (52, .invokevirtual 40, 96, 0), (55, .invokestatic 63, 91, 0), (58, .iconst 0, 0, 0), (59, .invokevirtual 70, 98, 0), (62, .ireturn, 0, 0)]
def K108 : List Ent := [(0, .aload_n 0, 0, 0), (1, .iload_n 1, 0, 0), (2, .invokevirtual 73, 95, 0), (5, .ifCond .eq 14, 0, 0), (8, .iload_n 2, 0, 0), (9, .iconst 1, 0, 0), (10, .sipush 999, 0, 0), (13, .invokestatic 36, 88, 0), (16, .ifCond .ne 6, 0, 0), (19, .ldc 58, 0, -2000000001), (21, .ireturn, 0, 0), (22, .aload_n 0, 0, 0), (23, .iload_n 1, 0, 0), (24, .invokevirtual 51, 97, 0), (27, .ifCond .eq 8, 0, 0), (30, .ldc 76, 0, -2000000002), (32, .goto 10, 0, 0), (35, .aload_n 0, 0, 0), (36, .iload_n 1, 0, 0), (37, .iload_n 2, 0, 0), (38, .iconst 0, 0, 0), (39, .invokevirtual 77, 107, 0), (42, .ireturn, 0, 0)]
def K109 : List Ent := [(0, .aload_n 0, 0, 0), (1, .iload_n 1, 0, 0), (2, .invokevirtual 73, 95, 0), (5, .ifCond .eq 14, 0, 0), (8, .iload_n 2, 0, 0), (9, .iconst 1, 0, 0), (10, .sipush 999, 0, 0), (13, .invokestatic 36, 88, 0), (16, .ifCond .ne 6, 0, 0), (19, .ldc 58, 0, -2000000001), (21, .ireturn, 0, 0), (22, .aload_n 0, 0, 0), (23, .iload_n 1, 0, 0), (24, .invokevirtual 51, 97, 0), (27, .ifCond .ne 21, 0, 0), (30, .aload_n 0, 0, 0), (31, .aload_n 0, 0, 0), (32, .iload_n 1, 0, 0), (33, .iconst 0, 0, 0), (34, .invokevirtual 40, 96, 0), (37, .invokestatic 63, 91, 0), (40, .iconst 0, 0, 0), (41, .invokevirtual 70, 98, 0), (44, .iload_n 2, 0, 0), (45, .if_icmp .ge 6, 0, 0), (48, .ldc 76, 0, -2000000002), (50, .ireturn, 0, 0), (51, .aload_n 0, 0, 0), (52, .iload_n 1, 0, 0), (53, .iconst 0, 0, 0), (54, .iload_n 2, 0, 0), (55, .invokevirtual 77, 107, 0), (58, .ireturn, 0, 0)]
def K110_0 : List Ent := [(0, .aload_n 0, 0, 0), (1, .iload_n 1, 0, 0), (2, .invokevirtual 73, 95, 0), (5, .ifCond .eq 16, 0, 0), (8, .aload_n 0, 0, 0), (9, .iload_n 2, 0, 0), (10, .invokevirtual 73, 95, 0), (13, .ifCond .eq 8, 0, 0), (16, .iload_n 1, 0, 0), (17, .iload_n 2, 0, 0), (18, .if_icmp .ne 6, 0, 0), (21, .ldc 58, 0, -2000000001), (23, .ireturn, 0, 0), (24, .aload_n 0, 0, 0), (25, .iload_n 1, 0, 0), (26, .invokevirtual 51, 97, 0), (29, .ifCond .ne 26, 0, 0), (32, .aload_n 0, 0, 0), (33, .iload_n 2, 0, 0), (34, .invokevirtual 51, 97, 0), (37, .ifCond .ne 18, 0, 0), (40, .aload_n 0, 0, 0), (41, .iload_n 1, 0, 0), (42, .iconst 0, 0, 0), (43, .invokevirtual 40, 96, 0), (46, .aload_n 0, 0, 0), (47, .iload_n 2, 0, 0), (48, .iconst 0, 0, 0), (49, .invokevirtual 40, 96, 0), (52, .if_icmp .eq 6, 0, 0), (55, .ldc 76, 0, -2000000002), (57, .ireturn, 0, 0), (58, .aload_n 0, 0, 0), (59, .invokevirtual 60, 90, 0), (62, .aload_n 0, 0, 0), (63, .iload_n 1, 0, 0), (64, .invokevirtual 67, 106, 0), (67, .istore_n 3, 0, 0), (68, .aload_n 0, 0, 0), (69, .iload_n 2, 0, 0)]
def K110_1 : List Ent := [(70, .invokevirtual 67, 106, 0), (73, .istore 4, 0, 0), (75, .aload_n 0, 0, 0), (76, .getfield 7, 5, 0), (79, .iload 4, 0, 0), (81, .dup2, 0, 0), (82, .iaload, 0, 0), (83, .iconst 1, 0, 0), (84, .iadd, 0, 0), (85, .iastore, 0, 0), (86, .aload_n 0, 0, 0), (87, .getfield 7, 5, 0), (90, .iload 4, 0, 0), (92, .iconst 1, 0, 0), (93, .iadd, 0, 0), (94, .dup2, 0, 0), (95, .iaload, 0, 0), (96, .aload_n 0, 0, 0), (97, .getfield 7, 5, 0), (100, .iload_n 3, 0, 0), (101, .iconst 1, 0, 0), (102, .iadd, 0, 0), (103, .iaload, 0, 0), (104, .iadd, 0, 0), (105, .iastore, 0, 0), (106, .aload_n 0, 0, 0), (107, .getfield 7, 5, 0), (110, .iload 4, 0, 0), (112, .iconst 2, 0, 0), (113, .iadd, 0, 0), (114, .dup2, 0, 0), (115, .iaload, 0, 0), (116, .aload_n 0, 0, 0), (117, .getfield 7, 5, 0), (120, .iload_n 3, 0, 0), (121, .iconst 2, 0, 0), (122, .iadd, 0, 0), (123, .iaload, 0, 0), (124, .iadd, 0, 0), (125, .iastore, 0, 0)]
def K110_2 : List Ent := [(126, .aload_n 0, 0, 0), (127, .iload_n 3, 0, 0), (128, .invokevirtual 54, 103, 0), (131, .aload_n 0, 0, 0), (132, .getfield 7, 5, 0), (135, .aload_n 0, 0, 0), (136, .iload_n 1, 0, 0), (137, .iconst 0, 0, 0), (138, .invokevirtual 40, 96, 0), (141, .invokestatic 63, 91, 0), (144, .dup2, 0, 0), (145, .iaload, 0, 0), (146, .iconst 1, 0, 0), (147, .iload_n 1, 0, 0), (148, .ishl, 0, 0), (149, .ior, 0, 0), (150, .iastore, 0, 0), (151, .aload_n 0, 0, 0), (152, .getfield 7, 5, 0), (155, .sipush 164, 0, 0), (158, .iconst 2, 0, 0), (159, .iload_n 1, 0, 0), (160, .imul, 0, 0), (161, .iadd, 0, 0), (162, .iconst 1, 0, 0), (163, .iadd, 0, 0), (164, .iload_n 2, 0, 0), (165, .iastore, 0, 0), (166, .aload_n 0, 0, 0), (167, .invokevirtual 81, 101, 0), (170, .ireturn, 0, 0)]
def K110 : List Ent := K110_0 ++ (K110_1 ++ (K110_2))
def K111 : List Ent := [(0, .aload_n 0, 0, 0), (1, .iload_n 1, 0, 0), (2, .invokevirtual 73, 95, 0), (5, .ifCond .eq 11, 0, 0), (8, .aload_n 0, 0, 0), (9, .iload_n 2, 0, 0), (10, .invokevirtual 47, 94, 0), (13, .ifCond .ne 6, 0, 0), (16, .ldc 58, 0, -2000000001), (18, .ireturn, 0, 0), (19, .aload_n 0, 0, 0), (20, .iload_n 1, 0, 0), (21, .iconst 0, 0, 0), (22, .invokevirtual 40, 96, 0), (25, .istore_n 3, 0, 0), (26, .aload_n 0, 0, 0), (27, .iload_n 1, 0, 0), (28, .invokevirtual 51, 97, 0), (31, .ifCond .ne 34, 0, 0), (34, .iload_n 3, 0, 0), (35, .iload_n 2, 0, 0), (36, .if_icmp .eq 29, 0, 0), (39, .aload_n 0, 0, 0), (40, .getfield 7, 5, 0), (43, .iload_n 2, 0, 0), (44, .invokestatic 63, 91, 0), (47, .iload_n 1, 0, 0), (48, .invokestatic 44, 93, 0), (51, .iaload, 0, 0), (52, .aload_n 0, 0, 0), (53, .getfield 7, 5, 0), (56, .aload_n 0, 0, 0), (57, .iload_n 1, 0, 0), (58, .invokevirtual 67, 106, 0), (61, .iaload, 0, 0), (62, .if_icmp .eq 6, 0, 0), (65, .ldc 76, 0, -2000000002), (67, .ireturn, 0, 0), (68, .aload_n 0, 0, 0), (69, .invokevirtual 60, 90, 0), (72, .aload_n 0, 0, 0), (73, .getfield 7, 5, 0), (76, .sipush 164, 0, 0), (79, .iconst 2, 0, 0), (80, .iload_n 1, 0, 0), (81, .imul, 0, 0), (82, .iadd, 0, 0), (83, .iconst 0, 0, 0), (84, .iadd, 0, 0), (85, .iload_n 2, 0, 0), (86, .iastore, 0, 0), (87, .iload_n 3, 0, 0), (88, .ireturn, 0, 0)]
def K112 : List Ent := [(0, .iconst 0, 0, 0), (1, .istore_n 3, 0, 0), (2, .iload_n 3, 0, 0), (3, .bipush 25, 0, 0), (5, .if_icmp .ge 25, 0, 0), (8, .aload_n 0, 0, 0), (9, .getfield 7, 5, 0), (12, .iload_n 2, 0, 0), (13, .iload_n 3, 0, 0), (14, .iadd, 0, 0), (15, .aload_n 0, 0, 0), (16, .getfield 7, 5, 0), (19, .iload_n 1, 0, 0), (20, .iload_n 3, 0, 0), (21, .iadd, 0, 0), (22, .iaload, 0, 0), (23, .iastore, 0, 0), (24, .iinc 3 1, 0, 0), (27, .goto (-25), 0, 0), (30, .return_, 0, 0)]
def K113 : List Ent := [(0, .aload_n 0, 0, 0), (1, .iload_n 1, 0, 0), (2, .invokevirtual 47, 94, 0), (5, .ifCond .ne 6, 0, 0), (8, .ldc 58, 0, -2000000001), (10, .ireturn, 0, 0), (11, .iconst 0, 0, 0), (12, .istore_n 2, 0, 0), (13, .iload_n 2, 0, 0), (14, .bipush 6, 0, 0), (16, .if_icmp .ge 17, 0, 0), (19, .aload_n 0, 0, 0), (20, .iload_n 2, 0, 0), (21, .invokevirtual 47, 94, 0), (24, .ifCond .eq 9, 0, 0), (27, .iinc 2 1, 0, 0), (30, .goto (-17), 0, 0), (33, .iload_n 2, 0, 0), (34, .bipush 6, 0, 0), (36, .if_icmp .ne 6, 0, 0), (39, .ldc 59, 0, -2000000003), (41, .ireturn, 0, 0), (42, .aload_n 0, 0, 0), (43, .invokevirtual 60, 90, 0), (46, .aload_n 0, 0, 0), (47, .getfield 7, 5, 0), (50, .bipush 6, 0, 0), (52, .dup2, 0, 0), (53, .iaload, 0, 0), (54, .iconst 1, 0, 0), (55, .iadd, 0, 0), (56, .iastore, 0, 0), (57, .aload_n 0, 0, 0), (58, .getfield 7, 5, 0), (61, .bipush 8, 0, 0), (63, .bipush 26, 0, 0), (65, .iload_n 2, 0, 0), (66, .imul, 0, 0), (67, .iadd, 0, 0), (68, .iconst 0, 0, 0), (69, .iadd, 0, 0), (70, .aload_n 0, 0, 0), (71, .getfield 7, 5, 0), (74, .bipush 6, 0, 0), (76, .iaload, 0, 0), (77, .iastore, 0, 0), (78, .aload_n 0, 0, 0), (79, .iload_n 1, 0, 0), (80, .invokestatic 63, 91, 0), (83, .iload_n 2, 0, 0), (84, .invokestatic 63, 91, 0), (87, .invokevirtual 85, 112, 0), (90, .iload_n 2, 0, 0), (91, .ireturn, 0, 0)]
def K114 : List Ent := [(0, .iconst 0, 0, 0), (1, .istore_n 2, 0, 0), (2, .iconst 0, 0, 0), (3, .istore_n 3, 0, 0), (4, .iload_n 3, 0, 0), (5, .aload_n 0, 0, 0), (6, .getfield 7, 5, 0), (9, .iconst 0, 0, 0), (10, .iaload, 0, 0), (11, .if_icmp .ge 37, 0, 0), (14, .iload_n 2, 0, 0), (15, .aload_n 0, 0, 0), (16, .iload_n 3, 0, 0), (17, .invokevirtual 51, 97, 0), (20, .ifCond .ne 19, 0, 0), (23, .aload_n 0, 0, 0), (24, .iload_n 3, 0, 0), (25, .iconst 0, 0, 0), (26, .invokevirtual 40, 96, 0), (29, .iload_n 1, 0, 0), (30, .if_icmp .ne 9, 0, 0), (33, .iconst 1, 0, 0), (34, .iload_n 3, 0, 0), (35, .ishl, 0, 0), (36, .goto 4, 0, 0), (39, .iconst 0, 0, 0), (40, .ior, 0, 0), (41, .istore_n 2, 0, 0), (42, .iinc 3 1, 0, 0), (45, .goto (-41), 0, 0), (48, .iload_n 2, 0, 0), (49, .ireturn, 0, 0)]
def K115 : List Ent := [(0, .aload_n 0, 0, 0), (1, .iload_n 1, 0, 0), (2, .invokevirtual 47, 94, 0), (5, .ifCond .ne 6, 0, 0), (8, .ldc 58, 0, -2000000001), (10, .ireturn, 0, 0), (11, .aload_n 0, 0, 0), (12, .iload_n 1, 0, 0), (13, .invokevirtual 89, 114, 0), (16, .ifCond .ne 14, 0, 0), (19, .aload_n 0, 0, 0), (20, .invokevirtual 92, 100, 0), (23, .invokestatic 95, 99, 0), (26, .iconst 1, 0, 0), (27, .if_icmp .ne 6, 0, 0), (30, .ldc 76, 0, -2000000002), (32, .ireturn, 0, 0), (33, .aload_n 0, 0, 0), (34, .invokevirtual 60, 90, 0), (37, .aload_n 0, 0, 0), (38, .getfield 7, 5, 0), (41, .bipush 8, 0, 0), (43, .bipush 26, 0, 0), (45, .iload_n 1, 0, 0), (46, .imul, 0, 0), (47, .iadd, 0, 0), (48, .iconst 0, 0, 0), (49, .iadd, 0, 0), (50, .iconst 0, 0, 0), (51, .iastore, 0, 0), (52, .aload_n 0, 0, 0), (53, .invokevirtual 92, 100, 0), (56, .invokestatic 95, 99, 0), (59, .ireturn, 0, 0)]
def K116 : List Ent := [(0, .aload_n 0, 0, 0), (1, .iload_n 1, 0, 0), (2, .invokevirtual 47, 94, 0), (5, .ifCond .eq 16, 0, 0), (8, .aload_n 0, 0, 0), (9, .iload_n 2, 0, 0), (10, .invokevirtual 47, 94, 0), (13, .ifCond .eq 8, 0, 0), (16, .iload_n 1, 0, 0), (17, .iload_n 2, 0, 0), (18, .if_icmp .ne 6, 0, 0), (21, .ldc 58, 0, -2000000001), (23, .ireturn, 0, 0), (24, .aload_n 0, 0, 0), (25, .invokevirtual 60, 90, 0), (28, .aload_n 0, 0, 0), (29, .iload_n 1, 0, 0), (30, .invokestatic 63, 91, 0), (33, .iload_n 2, 0, 0), (34, .invokestatic 63, 91, 0), (37, .invokevirtual 98, 102, 0), (40, .istore_n 3, 0, 0), (41, .aload_n 0, 0, 0), (42, .getfield 7, 5, 0), (45, .iconst 5, 0, 0), (46, .dup2, 0, 0), (47, .iaload, 0, 0), (48, .iload_n 3, 0, 0), (49, .iadd, 0, 0), (50, .iastore, 0, 0), (51, .iload_n 3, 0, 0), (52, .ireturn, 0, 0)]
def K117 : List Ent := [(0, .aload_n 0, 0, 0), (1, .getfield 7, 5, 0), (4, .sipush 180, 0, 0), (7, .bipush 30, 0, 0), (9, .iload_n 1, 0, 0), (10, .imul, 0, 0), (11, .iadd, 0, 0), (12, .iload_n 2, 0, 0), (13, .iadd, 0, 0), (14, .iaload, 0, 0), (15, .ireturn, 0, 0)]
def K118_0 : List Ent := [(0, .aload_n 0, 0, 0), (1, .iload_n 1, 0, 0), (2, .invokevirtual 47, 94, 0), (5, .ifCond .eq 26, 0, 0), (8, .aload_n 0, 0, 0), (9, .iload_n 2, 0, 0), (10, .invokevirtual 47, 94, 0), (13, .ifCond .eq 18, 0, 0), (16, .iload_n 1, 0, 0), (17, .iload_n 2, 0, 0), (18, .if_icmp .eq 13, 0, 0), (21, .iload_n 3, 0, 0), (22, .iconst 1, 0, 0), (23, .bipush 99, 0, 0), (25, .invokestatic 36, 88, 0), (28, .ifCond .ne 6, 0, 0), (31, .ldc 58, 0, -2000000001), (33, .ireturn, 0, 0), (34, .aload_n 0, 0, 0), (35, .getfield 7, 5, 0), (38, .iconst 1, 0, 0), (39, .iaload, 0, 0), (40, .istore 4, 0, 0), (42, .iload 4, 0, 0), (44, .bipush 8, 0, 0), (46, .if_icmp .ne 6, 0, 0), (49, .ldc 59, 0, -2000000003), (51, .ireturn, 0, 0), (52, .aload_n 0, 0, 0), (53, .invokevirtual 60, 90, 0), (56, .sipush 180, 0, 0), (59, .bipush 30, 0, 0), (61, .iload 4, 0, 0), (63, .imul, 0, 0), (64, .iadd, 0, 0), (65, .istore 5, 0, 0), (67, .aload_n 0, 0, 0), (68, .getfield 7, 5, 0), (71, .iload 5, 0, 0), (73, .iconst 0, 0, 0)]
def K118_1 : List Ent := [(74, .iadd, 0, 0), (75, .iload_n 1, 0, 0), (76, .iastore, 0, 0), (77, .aload_n 0, 0, 0), (78, .getfield 7, 5, 0), (81, .iload 5, 0, 0), (83, .iconst 1, 0, 0), (84, .iadd, 0, 0), (85, .iload_n 2, 0, 0), (86, .iastore, 0, 0), (87, .aload_n 0, 0, 0), (88, .getfield 7, 5, 0), (91, .iload 5, 0, 0), (93, .iconst 2, 0, 0), (94, .iadd, 0, 0), (95, .aload_n 0, 0, 0), (96, .getfield 7, 5, 0), (99, .bipush 8, 0, 0), (101, .bipush 26, 0, 0), (103, .iload_n 2, 0, 0), (104, .imul, 0, 0), (105, .iadd, 0, 0), (106, .iconst 0, 0, 0), (107, .iadd, 0, 0), (108, .iaload, 0, 0), (109, .iastore, 0, 0), (110, .aload_n 0, 0, 0), (111, .getfield 7, 5, 0), (114, .iload 5, 0, 0), (116, .iconst 3, 0, 0), (117, .iadd, 0, 0), (118, .aload_n 0, 0, 0), (119, .getfield 7, 5, 0), (122, .iconst 2, 0, 0), (123, .iaload, 0, 0), (124, .iload_n 3, 0, 0), (125, .iadd, 0, 0), (126, .iastore, 0, 0), (127, .aload_n 0, 0, 0), (128, .getfield 7, 5, 0)]
def K118_2 : List Ent := [(131, .iload 5, 0, 0), (133, .iconst 4, 0, 0), (134, .iadd, 0, 0), (135, .aload_n 0, 0, 0), (136, .getfield 7, 5, 0), (139, .bipush 7, 0, 0), (141, .iaload, 0, 0), (142, .iastore, 0, 0), (143, .aload_n 0, 0, 0), (144, .iload_n 1, 0, 0), (145, .invokestatic 63, 91, 0), (148, .iload 4, 0, 0), (150, .invokestatic 101, 92, 0), (153, .invokevirtual 85, 112, 0), (156, .aload_n 0, 0, 0), (157, .getfield 7, 5, 0), (160, .iconst 1, 0, 0), (161, .dup2, 0, 0), (162, .iaload, 0, 0), (163, .iconst 1, 0, 0), (164, .iadd, 0, 0), (165, .iastore, 0, 0), (166, .aload_n 0, 0, 0), (167, .getfield 7, 5, 0), (170, .bipush 7, 0, 0), (172, .dup2, 0, 0), (173, .iaload, 0, 0), (174, .iconst 1, 0, 0), (175, .iadd, 0, 0), (176, .iastore, 0, 0), (177, .aload_n 0, 0, 0), (178, .getfield 7, 5, 0), (181, .iload 5, 0, 0), (183, .iconst 3, 0, 0), (184, .iadd, 0, 0), (185, .iaload, 0, 0), (186, .ireturn, 0, 0)]
def K118 : List Ent := K118_0 ++ (K118_1 ++ (K118_2))
def K119 : List Ent := [(0, .aload_n 0, 0, 0), (1, .getfield 7, 5, 0), (4, .bipush 8, 0, 0), (6, .bipush 26, 0, 0), (8, .aload_n 0, 0, 0), (9, .iload_n 1, 0, 0), (10, .iconst 1, 0, 0), (11, .invokevirtual 104, 117, 0), (14, .imul, 0, 0), (15, .iadd, 0, 0), (16, .iconst 0, 0, 0), (17, .iadd, 0, 0), (18, .iaload, 0, 0), (19, .aload_n 0, 0, 0), (20, .iload_n 1, 0, 0), (21, .iconst 2, 0, 0), (22, .invokevirtual 104, 117, 0), (25, .if_icmp .eq 7, 0, 0), (28, .iconst 1, 0, 0), (29, .goto 4, 0, 0), (32, .iconst 0, 0, 0), (33, .ireturn, 0, 0)]
def K120 : List Ent := [(0, .aload_n 0, 0, 0), (1, .iload_n 1, 0, 0), (2, .invokevirtual 107, 119, 0), (5, .istore_n 2, 0, 0), (6, .aload_n 0, 0, 0), (7, .getfield 7, 5, 0), (10, .iload_n 2, 0, 0), (11, .ifCond .eq 7, 0, 0), (14, .iconst 4, 0, 0), (15, .goto 4, 0, 0), (18, .iconst 3, 0, 0), (19, .dup2, 0, 0), (20, .iaload, 0, 0), (21, .iconst 1, 0, 0), (22, .iadd, 0, 0), (23, .iastore, 0, 0), (24, .aload_n 0, 0, 0), (25, .getfield 7, 5, 0), (28, .iconst 5, 0, 0), (29, .dup2, 0, 0), (30, .iaload, 0, 0), (31, .iload_n 2, 0, 0), (32, .ifCond .eq 7, 0, 0), (35, .iconst 0, 0, 0), (36, .goto 20, 0, 0), (39, .aload_n 0, 0, 0), (40, .aload_n 0, 0, 0), (41, .iload_n 1, 0, 0), (42, .iconst 1, 0, 0), (43, .invokevirtual 104, 117, 0), (46, .invokestatic 63, 91, 0), (49, .iload_n 1, 0, 0), (50, .invokestatic 101, 92, 0), (53, .invokevirtual 98, 102, 0), (56, .iadd, 0, 0), (57, .iastore, 0, 0), (58, .aload_n 0, 0, 0), (59, .getfield 7, 5, 0), (62, .iconst 1, 0, 0), (63, .dup2, 0, 0), (64, .iaload, 0, 0), (65, .iconst 1, 0, 0), (66, .isub, 0, 0), (67, .iastore, 0, 0), (68, .sipush 180, 0, 0), (71, .bipush 30, 0, 0), (73, .iload_n 1, 0, 0), (74, .imul, 0, 0), (75, .iadd, 0, 0), (76, .istore_n 3, 0, 0), (77, .iload_n 3, 0, 0), (78, .sipush 180, 0, 0), (81, .bipush 30, 0, 0), (83, .aload_n 0, 0, 0), (84, .getfield 7, 5, 0), (87, .iconst 1, 0, 0), (88, .iaload, 0, 0), (89, .imul, 0, 0), (90, .iadd, 0, 0), (91, .if_icmp .ge 24, 0, 0), (94, .aload_n 0, 0, 0), (95, .getfield 7, 5, 0), (98, .iload_n 3, 0, 0), (99, .aload_n 0, 0, 0), (100, .getfield 7, 5, 0), (103, .iload_n 3, 0, 0), (104, .bipush 30, 0, 0), (106, .iadd, 0, 0), (107, .iaload, 0, 0), (108, .iastore, 0, 0), (109, .iinc 3 1, 0, 0), (112, .goto (-35), 0, 0), (115, .iload_n 2, 0, 0), (116, .ifCond .ne 7, 0, 0), (119, .iconst 1, 0, 0), (120, .goto 4, 0, 0), (123, .iconst 0, 0, 0), (124, .ireturn, 0, 0)]
def K121 : List Ent := [(0, .aload_n 0, 0, 0), (1, .getfield 7, 5, 0), (4, .iconst 2, 0, 0), (5, .dup2, 0, 0), (6, .iaload, 0, 0), (7, .iconst 1, 0, 0), (8, .iadd, 0, 0), (9, .iastore, 0, 0), (10, .iconst 0, 0, 0), (11, .istore_n 1, 0, 0), (12, .iconst 0, 0, 0), (13, .istore_n 2, 0, 0), (14, .iload_n 2, 0, 0), (15, .aload_n 0, 0, 0), (16, .getfield 7, 5, 0), (19, .iconst 1, 0, 0), (20, .iaload, 0, 0), (21, .if_icmp .ge 43, 0, 0), (24, .aload_n 0, 0, 0), (25, .iload_n 2, 0, 0), (26, .iconst 3, 0, 0), (27, .invokevirtual 104, 117, 0), (30, .aload_n 0, 0, 0), (31, .getfield 7, 5, 0), (34, .iconst 2, 0, 0), (35, .iaload, 0, 0), (36, .if_icmp .ne 22, 0, 0), (39, .iload_n 1, 0, 0), (40, .aload_n 0, 0, 0), (41, .iload_n 2, 0, 0), (42, .invokevirtual 110, 120, 0), (45, .ifCond .eq 7, 0, 0), (48, .iconst 1, 0, 0), (49, .goto 4, 0, 0), (52, .iconst 0, 0, 0), (53, .iadd, 0, 0), (54, .istore_n 1, 0, 0), (55, .goto (-41), 0, 0), (58, .iinc 2 1, 0, 0), (61, .goto (-47), 0, 0), (64, .iload_n 1, 0, 0), (65, .ireturn, 0, 0)]
def K122 : List Ent := [(0, .iload_n 1, 0, 0), (1, .iconst 1, 0, 0), (2, .bipush 99, 0, 0), (4, .invokestatic 36, 88, 0), (7, .ifCond .ne 6, 0, 0), (10, .ldc 58, 0, -2000000001), (12, .ireturn, 0, 0), (13, .aload_n 0, 0, 0), (14, .getfield 7, 5, 0), (17, .iconst 2, 0, 0), (18, .iaload, 0, 0), (19, .iload_n 1, 0, 0), (20, .iadd, 0, 0), (21, .sipush 1999, 0, 0), (24, .if_icmp .le 6, 0, 0), (27, .ldc 59, 0, -2000000003), (29, .ireturn, 0, 0), (30, .aload_n 0, 0, 0), (31, .invokevirtual 60, 90, 0), (34, .iconst 0, 0, 0), (35, .istore_n 2, 0, 0), (36, .iconst 0, 0, 0), (37, .istore_n 3, 0, 0), (38, .iload_n 3, 0, 0), (39, .iload_n 1, 0, 0), (40, .if_icmp .ge 16, 0, 0), (43, .iload_n 2, 0, 0), (44, .aload_n 0, 0, 0), (45, .invokevirtual 113, 121, 0), (48, .iadd, 0, 0), (49, .istore_n 2, 0, 0), (50, .iinc 3 1, 0, 0), (53, .goto (-15), 0, 0), (56, .iload_n 2, 0, 0), (57, .ireturn, 0, 0)]
def K123 : List Ent := [(0, .iconst 0, 0, 0), (1, .istore_n 2, 0, 0), (2, .iconst 0, 0, 0), (3, .istore_n 3, 0, 0), (4, .iload_n 3, 0, 0), (5, .bipush 8, 0, 0), (7, .if_icmp .ge 35, 0, 0), (10, .iload_n 2, 0, 0), (11, .aload_n 0, 0, 0), (12, .getfield 7, 5, 0), (15, .iload_n 1, 0, 0), (16, .invokestatic 63, 91, 0), (19, .iload_n 3, 0, 0), (20, .invokestatic 44, 93, 0), (23, .iaload, 0, 0), (24, .ifCond .le 9, 0, 0), (27, .iconst 1, 0, 0), (28, .iload_n 3, 0, 0), (29, .ishl, 0, 0), (30, .goto 4, 0, 0), (33, .iconst 0, 0, 0), (34, .ior, 0, 0), (35, .istore_n 2, 0, 0), (36, .iinc 3 1, 0, 0), (39, .goto (-35), 0, 0), (42, .iload_n 2, 0, 0), (43, .ireturn, 0, 0)]
def K124 : List Ent := [(0, .iconst 0, 0, 0), (1, .istore_n 2, 0, 0), (2, .iconst 0, 0, 0), (3, .istore_n 3, 0, 0), (4, .iload_n 3, 0, 0), (5, .bipush 6, 0, 0), (7, .if_icmp .ge 42, 0, 0), (10, .iload_n 2, 0, 0), (11, .aload_n 0, 0, 0), (12, .iload_n 3, 0, 0), (13, .invokevirtual 47, 94, 0), (16, .ifCond .eq 24, 0, 0), (19, .aload_n 0, 0, 0), (20, .iload_n 3, 0, 0), (21, .invokestatic 63, 91, 0), (24, .iload_n 1, 0, 0), (25, .invokestatic 63, 91, 0), (28, .invokevirtual 116, 104, 0), (31, .ifCond .eq 9, 0, 0), (34, .iconst 1, 0, 0), (35, .iload_n 3, 0, 0), (36, .ishl, 0, 0), (37, .goto 4, 0, 0), (40, .iconst 0, 0, 0), (41, .ior, 0, 0), (42, .istore_n 2, 0, 0), (43, .iinc 3 1, 0, 0), (46, .goto (-42), 0, 0), (49, .iload_n 2, 0, 0), (50, .ireturn, 0, 0)]
def K125 : List Ent := [(0, .aload_n 0, 0, 0), (1, .iload_n 1, 0, 0), (2, .invokevirtual 47, 94, 0), (5, .ifCond .eq 13, 0, 0), (8, .iload_n 2, 0, 0), (9, .iconst 0, 0, 0), (10, .bipush 7, 0, 0), (12, .invokestatic 36, 88, 0), (15, .ifCond .ne 6, 0, 0), (18, .ldc 58, 0, -2000000001), (20, .ireturn, 0, 0), (21, .iload_n 2, 0, 0), (22, .tableswitch 86 0 6 #[42, 42, 42, 52, 61, 74, 80], 42, 0), (64, .aload_n 0, 0, 0), (65, .iload_n 1, 0, 0), (66, .invokestatic 63, 91, 0), (69, .iload_n 2, 0, 0), (70, .invokevirtual 70, 98, 0), (73, .ireturn, 0, 0), (74, .aload_n 0, 0, 0), (75, .iload_n 1, 0, 0), (76, .invokevirtual 120, 123, 0), (79, .invokestatic 95, 99, 0), (82, .ireturn, 0, 0), (83, .aload_n 0, 0, 0), (84, .getfield 7, 5, 0), (87, .iload_n 1, 0, 0), (88, .invokestatic 63, 91, 0), (91, .iaload, 0, 0), (92, .invokestatic 95, 99, 0), (95, .ireturn, 0, 0), (96, .aload_n 0, 0, 0), (97, .iload_n 1, 0, 0), (98, .invokevirtual 89, 114, 0), (101, .ireturn, 0, 0), (102, .aload_n 0, 0, 0), (103, .iload_n 1, 0, 0), (104, .invokevirtual 120, 123, 0), (107, .ireturn, 0, 0), (108, .aload_n 0, 0, 0), (109, .iload_n 1, 0, 0), (110, .invokevirtual 123, 124, 0), (113, .ireturn, 0, 0)]
def K126 : List Ent := [(0, .aload_n 0, 0, 0), (1, .iload_n 1, 0, 0), (2, .invokevirtual 47, 94, 0), (5, .ifCond .eq 20, 0, 0), (8, .aload_n 0, 0, 0), (9, .iload_n 2, 0, 0), (10, .invokevirtual 73, 95, 0), (13, .ifCond .eq 12, 0, 0), (16, .iload_n 3, 0, 0), (17, .iconst 0, 0, 0), (18, .iconst 2, 0, 0), (19, .invokestatic 36, 88, 0), (22, .ifCond .ne 6, 0, 0), (25, .ldc 58, 0, -2000000001), (27, .ireturn, 0, 0), (28, .iload_n 1, 0, 0), (29, .invokestatic 63, 91, 0), (32, .iload_n 2, 0, 0), (33, .invokestatic 44, 93, 0), (36, .istore 4, 0, 0), (38, .aload_n 0, 0, 0), (39, .getfield 7, 5, 0), (42, .iload 4, 0, 0), (44, .iaload, 0, 0), (45, .ifCond .ne 8, 0, 0), (48, .ldc 126, 0, -2000000004), (50, .goto 12, 0, 0), (53, .aload_n 0, 0, 0), (54, .getfield 7, 5, 0), (57, .iload 4, 0, 0), (59, .iload_n 3, 0, 0), (60, .iadd, 0, 0), (61, .iaload, 0, 0), (62, .ireturn, 0, 0)]
def K127 : List Ent := [(0, .iconst 0, 0, 0), (1, .istore_n 3, 0, 0), (2, .iconst 0, 0, 0), (3, .istore 4, 0, 0), (5, .iload 4, 0, 0), (7, .bipush 6, 0, 0), (9, .if_icmp .ge 93, 0, 0), (12, .aload_n 0, 0, 0), (13, .iload 4, 0, 0), (15, .invokevirtual 47, 94, 0), (18, .ifCond .eq 59, 0, 0), (21, .iload_n 2, 0, 0), (22, .ifCond .eq 24, 0, 0), (25, .aload_n 0, 0, 0), (26, .getfield 7, 5, 0), (29, .iload 4, 0, 0), (31, .invokestatic 63, 91, 0), (34, .iaload, 0, 0), (35, .iload_n 1, 0, 0), (36, .ishr, 0, 0), (37, .iconst 1, 0, 0), (38, .iand, 0, 0), (39, .iconst 1, 0, 0), (40, .if_icmp .ne 37, 0, 0), (43, .goto 30, 0, 0), (46, .aload_n 0, 0, 0), (47, .getfield 7, 5, 0), (50, .iload 4, 0, 0), (52, .invokestatic 63, 91, 0), (55, .iload_n 1, 0, 0), (56, .invokestatic 44, 93, 0), (59, .iaload, 0, 0), (60, .aload_n 0, 0, 0), (61, .getfield 7, 5, 0), (64, .aload_n 0, 0, 0), (65, .iload_n 1, 0, 0), (66, .invokevirtual 67, 106, 0), (69, .iaload, 0, 0), (70, .if_icmp .ne 7, 0, 0), (73, .iconst 1, 0, 0), (74, .goto 4, 0, 0), (77, .iconst 0, 0, 0), (78, .istore 5, 0, 0), (80, .iload_n 3, 0, 0), (81, .iload 5, 0, 0), (83, .ifCond .eq 10, 0, 0), (86, .iconst 1, 0, 0), (87, .iload 4, 0, 0), (89, .ishl, 0, 0), (90, .goto 4, 0, 0), (93, .iconst 0, 0, 0), (94, .ior, 0, 0), (95, .istore_n 3, 0, 0), (96, .iinc 4 1, 0, 0), (99, .goto (-94), 0, 0), (102, .iload_n 3, 0, 0), (103, .ireturn, 0, 0)]
def K128 : List Ent := [(0, .aload_n 0, 0, 0), (1, .iload_n 1, 0, 0), (2, .invokevirtual 73, 95, 0), (5, .ifCond .eq 12, 0, 0), (8, .iload_n 2, 0, 0), (9, .iconst 0, 0, 0), (10, .iconst 4, 0, 0), (11, .invokestatic 36, 88, 0), (14, .ifCond .ne 6, 0, 0), (17, .ldc 58, 0, -2000000001), (19, .ireturn, 0, 0), (20, .iload_n 2, 0, 0), (21, .iconst 4, 0, 0), (22, .if_icmp .ne 10, 0, 0), (25, .aload_n 0, 0, 0), (26, .iload_n 1, 0, 0), (27, .iconst 1, 0, 0), (28, .invokevirtual 127, 127, 0), (31, .ireturn, 0, 0), (32, .aload_n 0, 0, 0), (33, .iload_n 1, 0, 0), (34, .invokevirtual 51, 97, 0), (37, .iload_n 2, 0, 0), (38, .iconst 2, 0, 0), (39, .if_icmp .ne 7, 0, 0), (42, .iconst 1, 0, 0), (43, .goto 4, 0, 0), (46, .iconst 0, 0, 0), (47, .if_icmp .eq 6, 0, 0), (50, .ldc 126, 0, -2000000004), (52, .ireturn, 0, 0), (53, .iload_n 2, 0, 0), (54, .ifCond .ne 12, 0, 0), (57, .aload_n 0, 0, 0), (58, .iload_n 1, 0, 0), (59, .iconst 0, 0, 0), (60, .invokevirtual 40, 96, 0), (63, .goto 41, 0, 0), (66, .iload_n 2, 0, 0), (67, .iconst 1, 0, 0), (68, .if_icmp .ne 16, 0, 0), (71, .aload_n 0, 0, 0), (72, .getfield 7, 5, 0), (75, .aload_n 0, 0, 0), (76, .iload_n 1, 0, 0), (77, .invokevirtual 67, 106, 0), (80, .iaload, 0, 0), (81, .goto 23, 0, 0), (84, .iload_n 2, 0, 0), (85, .iconst 2, 0, 0), (86, .if_icmp .ne 12, 0, 0), (89, .aload_n 0, 0, 0), (90, .iload_n 1, 0, 0), (91, .iconst 1, 0, 0), (92, .invokevirtual 40, 96, 0), (95, .goto 9, 0, 0), (98, .aload_n 0, 0, 0), (99, .iload_n 1, 0, 0), (100, .iconst 0, 0, 0), (101, .invokevirtual 127, 127, 0), (104, .ireturn, 0, 0)]
def K129 : List Ent := [(0, .iconst 0, 0, 0), (1, .istore_n 2, 0, 0), (2, .iload_n 2, 0, 0), (3, .aload_n 0, 0, 0), (4, .getfield 7, 5, 0), (7, .iconst 1, 0, 0), (8, .iaload, 0, 0), (9, .if_icmp .ge 106, 0, 0), (12, .iconst 0, 0, 0), (13, .istore_n 3, 0, 0), (14, .iconst 0, 0, 0), (15, .istore 4, 0, 0), (17, .iload 4, 0, 0), (19, .aload_n 0, 0, 0), (20, .getfield 7, 5, 0), (23, .iconst 1, 0, 0), (24, .iaload, 0, 0), (25, .if_icmp .ge 77, 0, 0), (28, .aload_n 0, 0, 0), (29, .iload 4, 0, 0), (31, .iconst 3, 0, 0), (32, .invokevirtual 104, 117, 0), (35, .aload_n 0, 0, 0), (36, .iload_n 2, 0, 0), (37, .iconst 3, 0, 0), (38, .invokevirtual 104, 117, 0), (41, .if_icmp .lt 35, 0, 0), (44, .aload_n 0, 0, 0), (45, .iload 4, 0, 0), (47, .iconst 3, 0, 0), (48, .invokevirtual 104, 117, 0), (51, .aload_n 0, 0, 0), (52, .iload_n 2, 0, 0), (53, .iconst 3, 0, 0), (54, .invokevirtual 104, 117, 0), (57, .if_icmp .ne 23, 0, 0), (60, .aload_n 0, 0, 0), (61, .iload 4, 0, 0), (63, .iconst 4, 0, 0), (64, .invokevirtual 104, 117, 0), (67, .aload_n 0, 0, 0), (68, .iload_n 2, 0, 0), (69, .iconst 4, 0, 0), (70, .invokevirtual 104, 117, 0), (73, .if_icmp .ge 7, 0, 0), (76, .iconst 1, 0, 0), (77, .goto 4, 0, 0), (80, .iconst 0, 0, 0), (81, .istore 5, 0, 0), (83, .iload_n 3, 0, 0), (84, .iload 5, 0, 0), (86, .ifCond .eq 7, 0, 0), (89, .iconst 1, 0, 0), (90, .goto 4, 0, 0), (93, .iconst 0, 0, 0), (94, .iadd, 0, 0), (95, .istore_n 3, 0, 0), (96, .iinc 4 1, 0, 0), (99, .goto (-82), 0, 0), (102, .iload_n 3, 0, 0), (103, .iload_n 1, 0, 0), (104, .if_icmp .ne 5, 0, 0), (107, .iload_n 2, 0, 0), (108, .ireturn, 0, 0), (109, .iinc 2 1, 0, 0), (112, .goto (-110), 0, 0), (115, .ldc 126, 0, -2000000004), (117, .ireturn, 0, 0)]
def K130 : List Ent := [(0, .iload_n 1, 0, 0), (1, .ifCond .lt 12, 0, 0), (4, .iload_n 2, 0, 0), (5, .iconst 0, 0, 0), (6, .iconst 4, 0, 0), (7, .invokestatic 36, 88, 0), (10, .ifCond .ne 6, 0, 0), (13, .ldc 58, 0, -2000000001), (15, .ireturn, 0, 0), (16, .aload_n 0, 0, 0), (17, .iload_n 1, 0, 0), (18, .invokevirtual 131, 129, 0), (21, .istore_n 3, 0, 0), (22, .iload_n 3, 0, 0), (23, .ifCond .ge 6, 0, 0), (26, .ldc 126, 0, -2000000004), (28, .ireturn, 0, 0), (29, .iload_n 2, 0, 0), (30, .iconst 2, 0, 0), (31, .if_icmp .ge 12, 0, 0), (34, .aload_n 0, 0, 0), (35, .iload_n 3, 0, 0), (36, .iload_n 2, 0, 0), (37, .invokevirtual 104, 117, 0), (40, .goto 54, 0, 0), (43, .iload_n 2, 0, 0), (44, .iconst 2, 0, 0), (45, .if_icmp .ne 19, 0, 0), (48, .aload_n 0, 0, 0), (49, .iload_n 3, 0, 0), (50, .iconst 3, 0, 0), (51, .invokevirtual 104, 117, 0), (54, .aload_n 0, 0, 0), (55, .getfield 7, 5, 0), (58, .iconst 2, 0, 0), (59, .iaload, 0, 0), (60, .isub, 0, 0), (61, .goto 33, 0, 0), (64, .iload_n 2, 0, 0), (65, .iconst 3, 0, 0), (66, .if_icmp .ne 15, 0, 0), (69, .aload_n 0, 0, 0), (70, .iload_n 3, 0, 0), (71, .invokestatic 101, 92, 0), (74, .iconst 0, 0, 0), (75, .invokevirtual 70, 98, 0), (78, .goto 16, 0, 0), (81, .aload_n 0, 0, 0), (82, .iload_n 3, 0, 0), (83, .invokevirtual 107, 119, 0), (86, .ifCond .eq 7, 0, 0), (89, .iconst 1, 0, 0), (90, .goto 4, 0, 0), (93, .iconst 0, 0, 0), (94, .ireturn, 0, 0)]
def K131 : List Ent := [(0, .aload_n 0, 0, 0), (1, .getfield 7, 5, 0), (4, .aload_n 0, 0, 0), (5, .getfield 19, 5, 3), (8, .invokestatic 134, 89, 0), (11, .aload_n 0, 0, 0), (12, .iload_n 1, 0, 0), (13, .invokestatic 63, 91, 0), (16, .iconst 0, 0, 0), (17, .invokevirtual 70, 98, 0), (20, .istore 4, 0, 0), (22, .aload_n 0, 0, 0), (23, .iload_n 1, 0, 0), (24, .invokestatic 63, 91, 0), (27, .iload_n 2, 0, 0), (28, .invokestatic 63, 91, 0), (31, .invokevirtual 98, 102, 0), (34, .istore 5, 0, 0), (36, .iload_n 3, 0, 0), (37, .ifCond .ne 8, 0, 0), (40, .iload 5, 0, 0), (42, .goto 43, 0, 0), (45, .iload_n 3, 0, 0), (46, .iconst 1, 0, 0), (47, .if_icmp .ne 18, 0, 0), (50, .aload_n 0, 0, 0), (51, .iload_n 1, 0, 0), (52, .invokestatic 63, 91, 0), (55, .iconst 0, 0, 0), (56, .invokevirtual 70, 98, 0), (59, .iload 4, 0, 0), (61, .isub, 0, 0), (62, .goto 23, 0, 0), (65, .aload_n 0, 0, 0), (66, .iload_n 1, 0, 0), (67, .invokestatic 63, 91, 0), (70, .iload_n 2, 0, 0), (71, .invokestatic 63, 91, 0), (74, .invokevirtual 116, 104, 0), (77, .ifCond .eq 7, 0, 0), (80, .iconst 1, 0, 0), (81, .goto 4, 0, 0), (84, .iconst 0, 0, 0), (85, .istore 6, 0, 0), (87, .aload_n 0, 0, 0), (88, .getfield 19, 5, 3), (91, .aload_n 0, 0, 0), (92, .getfield 7, 5, 0), (95, .invokestatic 134, 89, 0), (98, .iload 6, 0, 0), (100, .ireturn, 0, 0)]
def K132 : List Ent := [(0, .aload_n 0, 0, 0), (1, .iload_n 1, 0, 0), (2, .invokevirtual 47, 94, 0), (5, .ifCond .eq 25, 0, 0), (8, .aload_n 0, 0, 0), (9, .iload_n 2, 0, 0), (10, .invokevirtual 47, 94, 0), (13, .ifCond .eq 17, 0, 0), (16, .iload_n 1, 0, 0), (17, .iload_n 2, 0, 0), (18, .if_icmp .eq 12, 0, 0), (21, .iload_n 3, 0, 0), (22, .iconst 0, 0, 0), (23, .iconst 2, 0, 0), (24, .invokestatic 36, 88, 0), (27, .ifCond .ne 6, 0, 0), (30, .ldc 58, 0, -2000000001), (32, .ireturn, 0, 0), (33, .aload_n 0, 0, 0), (34, .iload_n 1, 0, 0), (35, .iload_n 2, 0, 0), (36, .iload_n 3, 0, 0), (37, .invokevirtual 138, 131, 0), (40, .ireturn, 0, 0)]
def K133 : List Ent := [(0, .iconst 0, 0, 0), (1, .istore_n 1, 0, 0), (2, .aload_n 0, 0, 0), (3, .iload_n 1, 0, 0), (4, .invokevirtual 47, 94, 0), (7, .ifCond .ne 9, 0, 0), (10, .iinc 1 1, 0, 0), (13, .goto (-11), 0, 0), (16, .iload_n 1, 0, 0), (17, .ireturn, 0, 0)]
def K134 : List Ent := [(0, .aload_n 0, 0, 0), (1, .getfield 7, 5, 0), (4, .aload_n 0, 0, 0), (5, .getfield 19, 5, 3), (8, .invokestatic 134, 89, 0), (11, .aload_n 0, 0, 0), (12, .invokevirtual 141, 133, 0), (15, .istore_n 1, 0, 0), (16, .iconst 0, 0, 0), (17, .istore_n 2, 0, 0), (18, .iconst 0, 0, 0), (19, .istore_n 3, 0, 0), (20, .iload_n 3, 0, 0), (21, .bipush 6, 0, 0), (23, .if_icmp .ge 41, 0, 0), (26, .iload_n 2, 0, 0), (27, .aload_n 0, 0, 0), (28, .iload_n 3, 0, 0), (29, .invokevirtual 47, 94, 0), (32, .ifCond .eq 23, 0, 0), (35, .iload_n 3, 0, 0), (36, .iload_n 1, 0, 0), (37, .if_icmp .eq 18, 0, 0), (40, .aload_n 0, 0, 0), (41, .iload_n 1, 0, 0), (42, .invokestatic 63, 91, 0), (45, .iload_n 3, 0, 0), (46, .invokestatic 63, 91, 0), (49, .invokevirtual 98, 102, 0), (52, .goto 4, 0, 0), (55, .iconst 0, 0, 0), (56, .iadd, 0, 0), (57, .istore_n 2, 0, 0), (58, .iinc 3 1, 0, 0), (61, .goto (-41), 0, 0), (64, .iload_n 2, 0, 0), (65, .ifCond .ge 8, 0, 0), (68, .ldc 126, 0, -2000000004), (70, .goto 12, 0, 0), (73, .aload_n 0, 0, 0), (74, .iload_n 1, 0, 0), (75, .invokestatic 63, 91, 0), (78, .iconst 0, 0, 0), (79, .invokevirtual 70, 98, 0), (82, .istore_n 3, 0, 0), (83, .aload_n 0, 0, 0), (84, .getfield 19, 5, 3), (87, .aload_n 0, 0, 0), (88, .getfield 7, 5, 0), (91, .invokestatic 134, 89, 0), (94, .iload_n 3, 0, 0), (95, .ireturn, 0, 0)]
def K135 : List Ent := [(0, .iconst 0, 0, 0), (1, .istore_n 1, 0, 0), (2, .iconst 0, 0, 0), (3, .istore_n 2, 0, 0), (4, .iload_n 2, 0, 0), (5, .bipush 8, 0, 0), (7, .if_icmp .ge 116, 0, 0), (10, .aload_n 0, 0, 0), (11, .invokevirtual 141, 133, 0), (14, .invokestatic 63, 91, 0), (17, .iload_n 2, 0, 0), (18, .invokestatic 44, 93, 0), (21, .istore_n 3, 0, 0), (22, .iconst 0, 0, 0), (23, .istore 4, 0, 0), (25, .iload 4, 0, 0), (27, .bipush 6, 0, 0), (29, .if_icmp .ge 55, 0, 0), (32, .aload_n 0, 0, 0), (33, .iload 4, 0, 0), (35, .invokevirtual 47, 94, 0), (38, .ifCond .eq 38, 0, 0), (41, .aload_n 0, 0, 0), (42, .getfield 7, 5, 0), (45, .iload 4, 0, 0), (47, .invokestatic 63, 91, 0), (50, .iload_n 2, 0, 0), (51, .invokestatic 44, 93, 0), (54, .iaload, 0, 0), (55, .aload_n 0, 0, 0), (56, .getfield 7, 5, 0), (59, .iload_n 3, 0, 0), (60, .iaload, 0, 0), (61, .if_icmp .ge 15, 0, 0), (64, .iload 4, 0, 0), (66, .invokestatic 63, 91, 0), (69, .iload_n 2, 0, 0), (70, .invokestatic 44, 93, 0), (73, .goto 4, 0, 0), (76, .iload_n 3, 0, 0), (77, .istore_n 3, 0, 0), (78, .iinc 4 1, 0, 0), (81, .goto (-56), 0, 0), (84, .iload_n 1, 0, 0), (85, .aload_n 0, 0, 0), (86, .getfield 7, 5, 0), (89, .iload_n 3, 0, 0), (90, .iaload, 0, 0), (91, .ifCond .ne 7, 0, 0), (94, .iconst 0, 0, 0), (95, .goto 20, 0, 0), (98, .aload_n 0, 0, 0), (99, .getfield 7, 5, 0), (102, .iload_n 3, 0, 0), (103, .iconst 1, 0, 0), (104, .iadd, 0, 0), (105, .iaload, 0, 0), (106, .aload_n 0, 0, 0), (107, .getfield 7, 5, 0), (110, .iload_n 3, 0, 0), (111, .iconst 2, 0, 0), (112, .iadd, 0, 0), (113, .iaload, 0, 0), (114, .isub, 0, 0), (115, .iadd, 0, 0), (116, .istore_n 1, 0, 0), (117, .iinc 2 1, 0, 0), (120, .goto (-116), 0, 0), (123, .iload_n 1, 0, 0), (124, .ireturn, 0, 0)]
def K136 : List Ent := [(0, .iload_n 1, 0, 0), (1, .iconst 1, 0, 0), (2, .iadd, 0, 0), (3, .bipush 6, 0, 0), (5, .irem, 0, 0), (6, .istore_n 2, 0, 0), (7, .aload_n 0, 0, 0), (8, .iload_n 2, 0, 0), (9, .invokevirtual 47, 94, 0), (12, .ifCond .ne 13, 0, 0), (15, .iload_n 2, 0, 0), (16, .iconst 1, 0, 0), (17, .iadd, 0, 0), (18, .bipush 6, 0, 0), (20, .irem, 0, 0), (21, .istore_n 2, 0, 0), (22, .goto (-15), 0, 0), (25, .iload_n 2, 0, 0), (26, .ireturn, 0, 0)]
def K137 : List Ent := [(0, .aload_n 0, 0, 0), (1, .getfield 7, 5, 0), (4, .aload_n 0, 0, 0), (5, .getfield 19, 5, 3), (8, .invokestatic 134, 89, 0), (11, .iconst 0, 0, 0), (12, .istore_n 1, 0, 0), (13, .aload_n 0, 0, 0), (14, .invokevirtual 141, 133, 0), (17, .istore_n 2, 0, 0), (18, .aload_n 0, 0, 0), (19, .aload_n 0, 0, 0), (20, .invokevirtual 141, 133, 0), (23, .invokevirtual 123, 124, 0), (26, .aload_n 0, 0, 0), (27, .invokevirtual 92, 100, 0), (30, .if_icmp .eq 39, 0, 0), (33, .iload_n 1, 0, 0), (34, .aload_n 0, 0, 0), (35, .iload_n 2, 0, 0), (36, .invokestatic 63, 91, 0), (39, .aload_n 0, 0, 0), (40, .iload_n 2, 0, 0), (41, .invokevirtual 144, 136, 0), (44, .invokestatic 63, 91, 0), (47, .invokevirtual 98, 102, 0), (50, .ifCond .ge 7, 0, 0), (53, .iconst 0, 0, 0), (54, .goto 4, 0, 0), (57, .iconst 1, 0, 0), (58, .iadd, 0, 0), (59, .istore_n 1, 0, 0), (60, .aload_n 0, 0, 0), (61, .iload_n 2, 0, 0), (62, .invokevirtual 144, 136, 0), (65, .istore_n 2, 0, 0), (66, .goto (-48), 0, 0), (69, .aload_n 0, 0, 0), (70, .getfield 19, 5, 3), (73, .aload_n 0, 0, 0), (74, .getfield 7, 5, 0), (77, .invokestatic 134, 89, 0), (80, .iload_n 1, 0, 0), (81, .ireturn, 0, 0)]
def K138 : List Ent := [(0, .aload_n 0, 0, 0), (1, .iload_n 1, 0, 0), (2, .invokevirtual 47, 94, 0), (5, .ifCond .eq 13, 0, 0), (8, .iload_n 2, 0, 0), (9, .iconst 0, 0, 0), (10, .bipush 99, 0, 0), (12, .invokestatic 36, 88, 0), (15, .ifCond .ne 6, 0, 0), (18, .ldc 58, 0, -2000000001), (20, .ireturn, 0, 0), (21, .aload_n 0, 0, 0), (22, .getfield 7, 5, 0), (25, .aload_n 0, 0, 0), (26, .getfield 19, 5, 3), (29, .invokestatic 134, 89, 0), (32, .iconst 0, 0, 0), (33, .istore_n 3, 0, 0), (34, .iconst 0, 0, 0), (35, .istore 4, 0, 0), (37, .iload 4, 0, 0), (39, .iload_n 2, 0, 0), (40, .if_icmp .ge 16, 0, 0), (43, .iload_n 3, 0, 0), (44, .aload_n 0, 0, 0), (45, .invokevirtual 113, 121, 0), (48, .iadd, 0, 0), (49, .istore_n 3, 0, 0), (50, .iinc 4 1, 0, 0), (53, .goto (-16), 0, 0), (56, .iload_n 3, 0, 0), (57, .ifCond .ge 8, 0, 0), (60, .ldc 126, 0, -2000000004), (62, .goto 12, 0, 0), (65, .aload_n 0, 0, 0), (66, .iload_n 1, 0, 0), (67, .invokestatic 63, 91, 0), (70, .iconst 0, 0, 0), (71, .invokevirtual 70, 98, 0), (74, .istore 4, 0, 0), (76, .aload_n 0, 0, 0), (77, .getfield 19, 5, 3), (80, .aload_n 0, 0, 0), (81, .getfield 7, 5, 0), (84, .invokestatic 134, 89, 0), (87, .iload 4, 0, 0), (89, .ireturn, 0, 0)]
def K139 : List Ent := [(0, .iload_n 1, 0, 0), (1, .iconst 0, 0, 0), (2, .iconst 1, 0, 0), (3, .invokestatic 36, 88, 0), (6, .ifCond .ne 6, 0, 0), (9, .ldc 58, 0, -2000000001), (11, .ireturn, 0, 0), (12, .iconst (-1), 0, 0), (13, .istore_n 2, 0, 0), (14, .iconst (-1), 0, 0), (15, .istore_n 3, 0, 0), (16, .iconst 0, 0, 0), (17, .istore 4, 0, 0), (19, .iload 4, 0, 0), (21, .bipush 6, 0, 0), (23, .if_icmp .ge 117, 0, 0), (26, .iconst 0, 0, 0), (27, .istore 5, 0, 0), (29, .iconst 0, 0, 0), (30, .istore 6, 0, 0), (32, .iload 6, 0, 0), (34, .bipush 6, 0, 0), (36, .if_icmp .ge 52, 0, 0), (39, .aload_n 0, 0, 0), (40, .iload 4, 0, 0), (42, .invokevirtual 47, 94, 0), (45, .ifCond .eq 43, 0, 0), (48, .iload 5, 0, 0), (50, .aload_n 0, 0, 0), (51, .iload 6, 0, 0), (53, .invokevirtual 47, 94, 0), (56, .ifCond .eq 22, 0, 0), (59, .iload 6, 0, 0), (61, .iload 4, 0, 0), (63, .if_icmp .eq 15, 0, 0), (66, .aload_n 0, 0, 0), (67, .iload 4, 0, 0), (69, .iload 6, 0, 0), (71, .iconst 0, 0, 0), (72, .invokevirtual 138, 131, 0), (75, .goto 4, 0, 0), (78, .iconst 0, 0, 0), (79, .iadd, 0, 0), (80, .istore 5, 0, 0), (82, .iinc 6 1, 0, 0), (85, .goto (-53), 0, 0), (88, .aload_n 0, 0, 0), (89, .iload 4, 0, 0), (91, .invokevirtual 47, 94, 0), (94, .ifCond .eq 13, 0, 0), (97, .iload 5, 0, 0), (99, .iload_n 3, 0, 0), (100, .if_icmp .le 7, 0, 0), (103, .iconst 1, 0, 0), (104, .goto 4, 0, 0), (107, .iconst 0, 0, 0), (108, .istore 6, 0, 0), (110, .iload 6, 0, 0), (112, .ifCond .eq 8, 0, 0), (115, .iload 4, 0, 0), (117, .goto 4, 0, 0), (120, .iload_n 2, 0, 0), (121, .istore_n 2, 0, 0), (122, .iload 6, 0, 0), (124, .ifCond .eq 8, 0, 0), (127, .iload 5, 0, 0), (129, .goto 4, 0, 0), (132, .iload_n 3, 0, 0), (133, .istore_n 3, 0, 0), (134, .iinc 4 1, 0, 0), (137, .goto (-118), 0, 0), (140, .iload_n 1, 0, 0), (141, .ifCond .ne 7, 0, 0), (144, .iload_n 2, 0, 0), (145, .goto 4, 0, 0), (148, .iload_n 3, 0, 0), (149, .ireturn, 0, 0)]
def K140 : List Ent := [(0, .iload_n 1, 0, 0), (1, .tableswitch 119 0 10 #[59, 67, 74, 79, 86, 93, 93, 93, 104, 109, 114], 59, 0), (60, .aload_n 0, 0, 0), (61, .invokevirtual 92, 100, 0), (64, .invokestatic 95, 99, 0), (67, .ireturn, 0, 0), (68, .aload_n 0, 0, 0), (69, .getfield 7, 5, 0), (72, .iconst 0, 0, 0), (73, .iaload, 0, 0), (74, .ireturn, 0, 0), (75, .aload_n 0, 0, 0), (76, .invokevirtual 81, 101, 0), (79, .ireturn, 0, 0), (80, .aload_n 0, 0, 0), (81, .getfield 7, 5, 0), (84, .iconst 1, 0, 0), (85, .iaload, 0, 0), (86, .ireturn, 0, 0), (87, .aload_n 0, 0, 0), (88, .getfield 7, 5, 0), (91, .iconst 2, 0, 0), (92, .iaload, 0, 0), (93, .ireturn, 0, 0), (94, .aload_n 0, 0, 0), (95, .getfield 7, 5, 0), (98, .iconst 3, 0, 0), (99, .iload_n 1, 0, 0), (100, .iadd, 0, 0), (101, .iconst 5, 0, 0), (102, .isub, 0, 0), (103, .iaload, 0, 0), (104, .ireturn, 0, 0), (105, .aload_n 0, 0, 0), (106, .getfield 32, 5, 4), (109, .ireturn, 0, 0), (110, .aload_n 0, 0, 0), (111, .getfield 147, 5, 7), (114, .ireturn, 0, 0), (115, .aload_n 0, 0, 0), (116, .invokevirtual 92, 100, 0), (119, .ireturn, 0, 0), (120, .ldc 58, 0, -2000000001), (122, .ireturn, 0, 0)]
def K141 : List Ent := [(0, .aload_n 0, 0, 0), (1, .getfield 32, 5, 4), (4, .ifCond .ne 6, 0, 0), (7, .ldc 76, 0, -2000000002), (9, .ireturn, 0, 0), (10, .aload_n 0, 0, 0), (11, .dup, 0, 0), (12, .getfield 32, 5, 4), (15, .iconst 1, 0, 0), (16, .isub, 0, 0), (17, .putfield 32, 5, 4), (20, .iconst 0, 0, 0), (21, .istore_n 1, 0, 0), (22, .iload_n 1, 0, 0), (23, .sipush 420, 0, 0), (26, .if_icmp .ge 30, 0, 0), (29, .aload_n 0, 0, 0), (30, .getfield 7, 5, 0), (33, .iload_n 1, 0, 0), (34, .aload_n 0, 0, 0), (35, .getfield 13, 5, 1), (38, .sipush 420, 0, 0), (41, .aload_n 0, 0, 0), (42, .getfield 32, 5, 4), (45, .imul, 0, 0), (46, .iload_n 1, 0, 0), (47, .iadd, 0, 0), (48, .iaload, 0, 0), (49, .iastore, 0, 0), (50, .iinc 1 1, 0, 0), (53, .goto (-31), 0, 0), (56, .aload_n 0, 0, 0), (57, .getfield 32, 5, 4), (60, .ireturn, 0, 0)]
def K142 : List Ent := [(0, .iload_n 1, 0, 0), (1, .bipush 32, 0, 0), (3, .bipush 126, 0, 0), (5, .invokestatic 36, 88, 0), (8, .ifCond .ne 6, 0, 0), (11, .ldc 58, 0, -2000000001), (13, .ireturn, 0, 0), (14, .aload_n 0, 0, 0), (15, .getfield 147, 5, 7), (18, .bipush 60, 0, 0), (20, .if_icmp .ne 6, 0, 0), (23, .ldc 59, 0, -2000000003), (25, .ireturn, 0, 0), (26, .aload_n 0, 0, 0), (27, .getfield 22, 5, 6), (30, .aload_n 0, 0, 0), (31, .getfield 147, 5, 7), (34, .iload_n 1, 0, 0), (35, .iastore, 0, 0), (36, .aload_n 0, 0, 0), (37, .dup, 0, 0), (38, .getfield 147, 5, 7), (41, .iconst 1, 0, 0), (42, .iadd, 0, 0), (43, .putfield 147, 5, 7), (46, .aload_n 0, 0, 0), (47, .getfield 147, 5, 7), (50, .ireturn, 0, 0)]
def K143 : List Ent := [(0, .aload_n 0, 0, 0), (1, .getfield 147, 5, 7), (4, .istore_n 1, 0, 0), (5, .aload_n 0, 0, 0), (6, .iconst 0, 0, 0), (7, .putfield 147, 5, 7), (10, .iload_n 1, 0, 0), (11, .ireturn, 0, 0)]
def K144 : List Ent := [(0, .aload_n 0, 0, 0), (1, .getfield 150, 5, 8), (4, .aload_n 0, 0, 0), (5, .getfield 147, 5, 7), (8, .if_icmp .ge 24, 0, 0), (11, .aload_n 0, 0, 0), (12, .getfield 22, 5, 6), (15, .aload_n 0, 0, 0), (16, .getfield 150, 5, 8), (19, .iaload, 0, 0), (20, .iload_n 1, 0, 0), (21, .iload_n 2, 0, 0), (22, .invokestatic 36, 88, 0), (25, .ifCond .eq 7, 0, 0), (28, .iconst 1, 0, 0), (29, .goto 4, 0, 0), (32, .iconst 0, 0, 0), (33, .ireturn, 0, 0)]
def K145 : List Ent := [(0, .aload_n 0, 0, 0), (1, .iload_n 1, 0, 0), (2, .iload_n 1, 0, 0), (3, .invokevirtual 153, 144, 0), (6, .istore_n 2, 0, 0), (7, .aload_n 0, 0, 0), (8, .dup, 0, 0), (9, .getfield 150, 5, 8), (12, .iload_n 2, 0, 0), (13, .ifCond .eq 7, 0, 0), (16, .iconst 1, 0, 0), (17, .goto 4, 0, 0), (20, .iconst 0, 0, 0), (21, .iadd, 0, 0), (22, .putfield 150, 5, 8), (25, .iload_n 2, 0, 0), (26, .ireturn, 0, 0)]
def K146 : List Ent := [(0, .aload_n 0, 0, 0), (1, .getfield 150, 5, 8), (4, .istore_n 2, 0, 0), (5, .aload_n 0, 0, 0), (6, .getfield 25, 5, 14), (9, .iload_n 1, 0, 0), (10, .iconst 0, 0, 0), (11, .iastore, 0, 0), (12, .aload_n 0, 0, 0), (13, .bipush 48, 0, 0), (15, .bipush 57, 0, 0), (17, .invokevirtual 153, 144, 0), (20, .ifCond .eq 54, 0, 0), (23, .aload_n 0, 0, 0), (24, .getfield 150, 5, 8), (27, .iload_n 2, 0, 0), (28, .isub, 0, 0), (29, .iconst 3, 0, 0), (30, .if_icmp .ge 44, 0, 0), (33, .aload_n 0, 0, 0), (34, .getfield 25, 5, 14), (37, .iload_n 1, 0, 0), (38, .bipush 10, 0, 0), (40, .aload_n 0, 0, 0), (41, .getfield 25, 5, 14), (44, .iload_n 1, 0, 0), (45, .iaload, 0, 0), (46, .imul, 0, 0), (47, .aload_n 0, 0, 0), (48, .getfield 22, 5, 6), (51, .aload_n 0, 0, 0), (52, .getfield 150, 5, 8), (55, .iaload, 0, 0), (56, .iadd, 0, 0), (57, .bipush 48, 0, 0), (59, .isub, 0, 0), (60, .iastore, 0, 0), (61, .aload_n 0, 0, 0), (62, .dup, 0, 0), (63, .getfield 150, 5, 8), (66, .iconst 1, 0, 0), (67, .iadd, 0, 0), (68, .putfield 150, 5, 8), (71, .goto (-59), 0, 0), (74, .aload_n 0, 0, 0), (75, .getfield 150, 5, 8), (78, .iload_n 2, 0, 0), (79, .if_icmp .le 7, 0, 0), (82, .iconst 1, 0, 0), (83, .goto 4, 0, 0), (86, .iconst 0, 0, 0), (87, .ireturn, 0, 0)]
def K147 : List Ent := [(0, .iload_n 0, 0, 0), (1, .bipush 112, 0, 0), (3, .if_icmp .ne 7, 0, 0), (6, .iconst 3, 0, 0), (7, .goto 42, 0, 0), (10, .iload_n 0, 0, 0), (11, .bipush 97, 0, 0), (13, .if_icmp .eq 15, 0, 0), (16, .iload_n 0, 0, 0), (17, .bipush 116, 0, 0), (19, .if_icmp .eq 9, 0, 0), (22, .iload_n 0, 0, 0), (23, .bipush 114, 0, 0), (25, .if_icmp .ne 7, 0, 0), (28, .iconst 2, 0, 0), (29, .goto 20, 0, 0), (32, .iload_n 0, 0, 0), (33, .bipush 110, 0, 0), (35, .if_icmp .eq 9, 0, 0), (38, .iload_n 0, 0, 0), (39, .bipush 107, 0, 0), (41, .if_icmp .ne 7, 0, 0), (44, .iconst 1, 0, 0), (45, .goto 4, 0, 0), (48, .iconst 0, 0, 0), (49, .ireturn, 0, 0)]
def K148 : List Ent := [(0, .aload_n 0, 0, 0), (1, .aload_n 0, 0, 0), (2, .bipush 33, 0, 0), (4, .bipush 126, 0, 0), (6, .invokevirtual 153, 144, 0), (9, .ifCond .eq 15, 0, 0), (12, .aload_n 0, 0, 0), (13, .getfield 22, 5, 6), (16, .aload_n 0, 0, 0), (17, .getfield 150, 5, 8), (20, .iaload, 0, 0), (21, .goto 4, 0, 0), (24, .iconst 0, 0, 0), (25, .putfield 156, 5, 13), (28, .aload_n 0, 0, 0), (29, .getfield 156, 5, 13), (32, .invokestatic 159, 147, 0), (35, .istore_n 1, 0, 0), (36, .iload_n 1, 0, 0), (37, .ifCond .ne 5, 0, 0), (40, .iconst 0, 0, 0), (41, .ireturn, 0, 0), (42, .aload_n 0, 0, 0), (43, .dup, 0, 0), (44, .getfield 150, 5, 8), (47, .iconst 1, 0, 0), (48, .iadd, 0, 0), (49, .putfield 150, 5, 8), (52, .aload_n 0, 0, 0), (53, .iconst 0, 0, 0), (54, .invokevirtual 162, 146, 0), (57, .istore_n 2, 0, 0), (58, .iconst 1, 0, 0), (59, .istore_n 3, 0, 0), (60, .iload_n 3, 0, 0), (61, .iload_n 1, 0, 0), (62, .if_icmp .ge 36, 0, 0), (65, .iload_n 2, 0, 0), (66, .ifCond .eq 32, 0, 0), (69, .aload_n 0, 0, 0), (70, .bipush 44, 0, 0), (72, .invokevirtual 165, 145, 0), (75, .ifCond .eq 15, 0, 0), (78, .aload_n 0, 0, 0), (79, .iload_n 3, 0, 0), (80, .invokevirtual 162, 146, 0), (83, .ifCond .eq 7, 0, 0), (86, .iconst 1, 0, 0), (87, .goto 4, 0, 0), (90, .iconst 0, 0, 0), (91, .istore_n 2, 0, 0), (92, .iinc 3 1, 0, 0), (95, .goto (-35), 0, 0), (98, .iload_n 2, 0, 0), (99, .ifCond .eq 16, 0, 0), (102, .aload_n 0, 0, 0), (103, .bipush 59, 0, 0), (105, .invokevirtual 165, 145, 0), (108, .ifCond .eq 7, 0, 0), (111, .iconst 1, 0, 0), (112, .goto 4, 0, 0), (115, .iconst 0, 0, 0), (116, .ireturn, 0, 0)]
def K149 : List Ent := [(0, .aload_n 0, 0, 0), (1, .getfield 156, 5, 13), (4, .lookupswitch 137 #[(97, 63), (110, 52), (112, 114), (114, 97), (116, 80)], 52, 0), (56, .aload_n 0, 0, 0), (57, .aload_n 0, 0, 0), (58, .getfield 25, 5, 14), (61, .iconst 0, 0, 0), (62, .iaload, 0, 0), (63, .invokevirtual 168, 105, 0), (66, .ireturn, 0, 0), (67, .aload_n 0, 0, 0), (68, .aload_n 0, 0, 0), (69, .getfield 25, 5, 14), (72, .iconst 0, 0, 0), (73, .iaload, 0, 0), (74, .aload_n 0, 0, 0), (75, .getfield 25, 5, 14), (78, .iconst 1, 0, 0), (79, .iaload, 0, 0), (80, .invokevirtual 171, 108, 0), (83, .ireturn, 0, 0), (84, .aload_n 0, 0, 0), (85, .aload_n 0, 0, 0), (86, .getfield 25, 5, 14), (89, .iconst 0, 0, 0), (90, .iaload, 0, 0), (91, .aload_n 0, 0, 0), (92, .getfield 25, 5, 14), (95, .iconst 1, 0, 0), (96, .iaload, 0, 0), (97, .invokevirtual 174, 109, 0), (100, .ireturn, 0, 0), (101, .aload_n 0, 0, 0), (102, .aload_n 0, 0, 0), (103, .getfield 25, 5, 14), (106, .iconst 0, 0, 0), (107, .iaload, 0, 0), (108, .aload_n 0, 0, 0), (109, .getfield 25, 5, 14), (112, .iconst 1, 0, 0), (113, .iaload, 0, 0), (114, .invokevirtual 177, 110, 0), (117, .ireturn, 0, 0), (118, .aload_n 0, 0, 0), (119, .aload_n 0, 0, 0), (120, .getfield 25, 5, 14), (123, .iconst 0, 0, 0), (124, .iaload, 0, 0), (125, .aload_n 0, 0, 0), (126, .getfield 25, 5, 14), (129, .iconst 1, 0, 0), (130, .iaload, 0, 0), (131, .aload_n 0, 0, 0), (132, .getfield 25, 5, 14), (135, .iconst 2, 0, 0), (136, .iaload, 0, 0), (137, .invokevirtual 180, 118, 0), (140, .ireturn, 0, 0), (141, .aload_n 0, 0, 0), (142, .aload_n 0, 0, 0), (143, .getfield 25, 5, 14), (146, .iconst 0, 0, 0), (147, .iaload, 0, 0), (148, .invokevirtual 183, 122, 0), (151, .ireturn, 0, 0)]
def K150 : List Ent := [(0, .aload_n 0, 0, 0), (1, .iconst 1, 0, 0), (2, .putfield 28, 5, 5), (5, .aload_n 0, 0, 0), (6, .iconst 0, 0, 0), (7, .putfield 150, 5, 8), (10, .aload_n 0, 0, 0), (11, .iconst 0, 0, 0), (12, .putfield 186, 5, 9), (15, .aload_n 0, 0, 0), (16, .iconst 0, 0, 0), (17, .putfield 189, 5, 12), (20, .iconst 1, 0, 0), (21, .istore_n 1, 0, 0), (22, .aload_n 0, 0, 0), (23, .getfield 150, 5, 8), (26, .aload_n 0, 0, 0), (27, .getfield 147, 5, 7), (30, .if_icmp .ge 96, 0, 0), (33, .iload_n 1, 0, 0), (34, .ifCond .eq 92, 0, 0), (37, .aload_n 0, 0, 0), (38, .aload_n 0, 0, 0), (39, .getfield 150, 5, 8), (42, .putfield 186, 5, 9), (45, .aload_n 0, 0, 0), (46, .invokevirtual 192, 148, 0), (49, .istore_n 2, 0, 0), (50, .iload_n 2, 0, 0), (51, .ifCond .eq 10, 0, 0), (54, .aload_n 0, 0, 0), (55, .invokevirtual 196, 149, 0), (58, .goto 4, 0, 0), (61, .iconst 0, 0, 0), (62, .istore_n 3, 0, 0), (63, .iload_n 2, 0, 0), (64, .ifCond .eq 13, 0, 0), (67, .iload_n 3, 0, 0), (68, .ldc 58, 0, -2000000001), (70, .if_icmp .le 7, 0, 0), (73, .iconst 1, 0, 0), (74, .goto 4, 0, 0), (77, .iconst 0, 0, 0), (78, .istore_n 1, 0, 0), (79, .aload_n 0, 0, 0), (80, .iload_n 2, 0, 0), (81, .ifCond .eq 7, 0, 0), (84, .iconst 2, 0, 0), (85, .goto 4, 0, 0), (88, .iconst 1, 0, 0), (89, .putfield 199, 5, 10), (92, .aload_n 0, 0, 0), (93, .iload_n 2, 0, 0), (94, .ifCond .eq 7, 0, 0), (97, .iload_n 3, 0, 0), (98, .goto 12, 0, 0), (101, .aload_n 0, 0, 0), (102, .getfield 150, 5, 8), (105, .aload_n 0, 0, 0), (106, .getfield 186, 5, 9), (109, .isub, 0, 0), (110, .putfield 202, 5, 11), (113, .aload_n 0, 0, 0), (114, .dup, 0, 0), (115, .getfield 189, 5, 12), (118, .iconst 1, 0, 0), (119, .iadd, 0, 0), (120, .putfield 189, 5, 12), (123, .goto (-101), 0, 0), (126, .aload_n 0, 0, 0), (127, .iconst 0, 0, 0), (128, .putfield 28, 5, 5), (131, .iload_n 1, 0, 0), (132, .ireturn, 0, 0)]
def K151 : List Ent := [(0, .iload_n 1, 0, 0), (1, .iconst 0, 0, 0), (2, .iconst 2, 0, 0), (3, .invokestatic 36, 88, 0), (6, .ifCond .ne 6, 0, 0), (9, .ldc 58, 0, -2000000001), (11, .ireturn, 0, 0), (12, .aload_n 0, 0, 0), (13, .getfield 7, 5, 0), (16, .aload_n 0, 0, 0), (17, .getfield 16, 5, 2), (20, .invokestatic 134, 89, 0), (23, .aload_n 0, 0, 0), (24, .invokevirtual 205, 150, 0), (27, .istore_n 2, 0, 0), (28, .aload_n 0, 0, 0), (29, .getfield 16, 5, 2), (32, .aload_n 0, 0, 0), (33, .getfield 7, 5, 0), (36, .invokestatic 134, 89, 0), (39, .iload_n 2, 0, 0), (40, .ifCond .eq 8, 0, 0), (43, .ldc 126, 0, -2000000004), (45, .goto 30, 0, 0), (48, .iload_n 1, 0, 0), (49, .ifCond .ne 10, 0, 0), (52, .aload_n 0, 0, 0), (53, .getfield 186, 5, 9), (56, .goto 19, 0, 0), (59, .iload_n 1, 0, 0), (60, .iconst 1, 0, 0), (61, .if_icmp .ne 10, 0, 0), (64, .aload_n 0, 0, 0), (65, .getfield 199, 5, 10), (68, .goto 7, 0, 0), (71, .aload_n 0, 0, 0), (72, .getfield 202, 5, 11), (75, .ireturn, 0, 0)]
def K152 : List Ent := [(0, .aload_n 0, 0, 0), (1, .getfield 7, 5, 0), (4, .aload_n 0, 0, 0), (5, .getfield 16, 5, 2), (8, .invokestatic 134, 89, 0), (11, .aload_n 0, 0, 0), (12, .invokevirtual 205, 150, 0), (15, .istore_n 1, 0, 0), (16, .aload_n 0, 0, 0), (17, .getfield 16, 5, 2), (20, .aload_n 0, 0, 0), (21, .getfield 7, 5, 0), (24, .invokestatic 134, 89, 0), (27, .iload_n 1, 0, 0), (28, .ifCond .ne 6, 0, 0), (31, .ldc 76, 0, -2000000002), (33, .ireturn, 0, 0), (34, .aload_n 0, 0, 0), (35, .invokevirtual 60, 90, 0), (38, .aload_n 0, 0, 0), (39, .invokevirtual 205, 150, 0), (42, .ifCond .eq 10, 0, 0), (45, .aload_n 0, 0, 0), (46, .getfield 189, 5, 12), (49, .goto 5, 0, 0), (52, .ldc 126, 0, -2000000004), (54, .ireturn, 0, 0)]
def K153 : List Ent := [(0, .iload_n 0, 0, 0), (1, .iload_n 0, 0, 0), (2, .iconst 1, 0, 0), (3, .iushr, 0, 0), (4, .ldc_w 265, 0, 1431655765), (7, .iand, 0, 0), (8, .isub, 0, 0), (9, .istore_n 0, 0, 0), (10, .iload_n 0, 0, 0), (11, .ldc_w 266, 0, 858993459), (14, .iand, 0, 0), (15, .iload_n 0, 0, 0), (16, .iconst 2, 0, 0), (17, .iushr, 0, 0), (18, .ldc_w 266, 0, 858993459), (21, .iand, 0, 0), (22, .iadd, 0, 0), (23, .istore_n 0, 0, 0), (24, .iload_n 0, 0, 0), (25, .iload_n 0, 0, 0), (26, .iconst 4, 0, 0), (27, .iushr, 0, 0), (28, .iadd, 0, 0), (29, .ldc_w 267, 0, 252645135), (32, .iand, 0, 0), (33, .istore_n 0, 0, 0), (34, .iload_n 0, 0, 0), (35, .iload_n 0, 0, 0), (36, .bipush 8, 0, 0), (38, .iushr, 0, 0), (39, .iadd, 0, 0), (40, .istore_n 0, 0, 0), (41, .iload_n 0, 0, 0), (42, .iload_n 0, 0, 0), (43, .bipush 16, 0, 0), (45, .iushr, 0, 0), (46, .iadd, 0, 0), (47, .istore_n 0, 0, 0), (48, .iload_n 0, 0, 0), (49, .bipush 63, 0, 0), (51, .iand, 0, 0), (52, .ireturn, 0, 0)]
def K154_0 : List Ent := [(0, .new 7, 4, 0), (3, .dup, 0, 0), (4, .invokespecial 9, 54, 0), (7, .astore_n 1, 0, 0), (8, .new 10, 5, 0), (11, .dup, 0, 0), (12, .invokespecial 12, 87, 0), (15, .astore_n 2, 0, 0), (16, .iconst 0, 0, 0), (17, .istore_n 3, 0, 0), (18, .iload_n 3, 0, 0), (19, .aload_n 0, 0, 0), (20, .arraylength, 0, 0), (21, .iconst 4, 0, 0), (22, .isub, 0, 0), (23, .if_icmp .gt 823, 0, 0), (26, .aload_n 0, 0, 0), (27, .iload_n 3, 0, 0), (28, .iaload, 0, 0), (29, .bipush 31, 0, 0), (31, .iand, 0, 0), (32, .tableswitch 808 0 25 #[120, 143, 176, 209, 242, 275, 298, 321, 354, 397, 420, 453, 496, 529, 562, 605, 618, 631, 644, 677, 700, 723, 736, 759, 772, 795], 120, 0), (152, .aload_n 1, 0, 0), (153, .aload_n 0, 0, 0), (154, .iload_n 3, 0, 0), (155, .iconst 1, 0, 0), (156, .iadd, 0, 0), (157, .iaload, 0, 0), (158, .invokevirtual 13, 55, 0), (161, .aload_n 2, 0, 0), (162, .aload_n 0, 0, 0), (163, .iload_n 3, 0, 0), (164, .iconst 1, 0, 0), (165, .iadd, 0, 0), (166, .iaload, 0, 0), (167, .invokevirtual 17, 105, 0), (170, .if_icmp .eq 670, 0, 0), (173, .iconst 0, 0, 0), (174, .ireturn, 0, 0), (175, .aload_n 1, 0, 0)]
def K154_1 : List Ent := [(176, .aload_n 0, 0, 0), (177, .iload_n 3, 0, 0), (178, .iconst 1, 0, 0), (179, .iadd, 0, 0), (180, .iaload, 0, 0), (181, .aload_n 0, 0, 0), (182, .iload_n 3, 0, 0), (183, .iconst 2, 0, 0), (184, .iadd, 0, 0), (185, .iaload, 0, 0), (186, .invokevirtual 18, 56, 0), (189, .aload_n 2, 0, 0), (190, .aload_n 0, 0, 0), (191, .iload_n 3, 0, 0), (192, .iconst 1, 0, 0), (193, .iadd, 0, 0), (194, .iaload, 0, 0), (195, .aload_n 0, 0, 0), (196, .iload_n 3, 0, 0), (197, .iconst 2, 0, 0), (198, .iadd, 0, 0), (199, .iaload, 0, 0), (200, .invokevirtual 22, 108, 0), (203, .if_icmp .eq 637, 0, 0), (206, .iconst 0, 0, 0), (207, .ireturn, 0, 0), (208, .aload_n 1, 0, 0), (209, .aload_n 0, 0, 0), (210, .iload_n 3, 0, 0), (211, .iconst 1, 0, 0), (212, .iadd, 0, 0), (213, .iaload, 0, 0), (214, .aload_n 0, 0, 0), (215, .iload_n 3, 0, 0), (216, .iconst 2, 0, 0), (217, .iadd, 0, 0), (218, .iaload, 0, 0), (219, .invokevirtual 23, 57, 0), (222, .aload_n 2, 0, 0), (223, .aload_n 0, 0, 0)]
def K154_2 : List Ent := [(224, .iload_n 3, 0, 0), (225, .iconst 1, 0, 0), (226, .iadd, 0, 0), (227, .iaload, 0, 0), (228, .aload_n 0, 0, 0), (229, .iload_n 3, 0, 0), (230, .iconst 2, 0, 0), (231, .iadd, 0, 0), (232, .iaload, 0, 0), (233, .invokevirtual 26, 109, 0), (236, .if_icmp .eq 604, 0, 0), (239, .iconst 0, 0, 0), (240, .ireturn, 0, 0), (241, .aload_n 1, 0, 0), (242, .aload_n 0, 0, 0), (243, .iload_n 3, 0, 0), (244, .iconst 1, 0, 0), (245, .iadd, 0, 0), (246, .iaload, 0, 0), (247, .aload_n 0, 0, 0), (248, .iload_n 3, 0, 0), (249, .iconst 2, 0, 0), (250, .iadd, 0, 0), (251, .iaload, 0, 0), (252, .invokevirtual 27, 58, 0), (255, .aload_n 2, 0, 0), (256, .aload_n 0, 0, 0), (257, .iload_n 3, 0, 0), (258, .iconst 1, 0, 0), (259, .iadd, 0, 0), (260, .iaload, 0, 0), (261, .aload_n 0, 0, 0), (262, .iload_n 3, 0, 0), (263, .iconst 2, 0, 0), (264, .iadd, 0, 0), (265, .iaload, 0, 0), (266, .invokevirtual 30, 110, 0), (269, .if_icmp .eq 571, 0, 0), (272, .iconst 0, 0, 0), (273, .ireturn, 0, 0)]
def K154_3 : List Ent := [(274, .aload_n 1, 0, 0), (275, .aload_n 0, 0, 0), (276, .iload_n 3, 0, 0), (277, .iconst 1, 0, 0), (278, .iadd, 0, 0), (279, .iaload, 0, 0), (280, .aload_n 0, 0, 0), (281, .iload_n 3, 0, 0), (282, .iconst 2, 0, 0), (283, .iadd, 0, 0), (284, .iaload, 0, 0), (285, .invokevirtual 31, 59, 0), (288, .aload_n 2, 0, 0), (289, .aload_n 0, 0, 0), (290, .iload_n 3, 0, 0), (291, .iconst 1, 0, 0), (292, .iadd, 0, 0), (293, .iaload, 0, 0), (294, .aload_n 0, 0, 0), (295, .iload_n 3, 0, 0), (296, .iconst 2, 0, 0), (297, .iadd, 0, 0), (298, .iaload, 0, 0), (299, .invokevirtual 34, 111, 0), (302, .if_icmp .eq 538, 0, 0), (305, .iconst 0, 0, 0), (306, .ireturn, 0, 0), (307, .aload_n 1, 0, 0), (308, .aload_n 0, 0, 0), (309, .iload_n 3, 0, 0), (310, .iconst 1, 0, 0), (311, .iadd, 0, 0), (312, .iaload, 0, 0), (313, .invokevirtual 35, 60, 0), (316, .aload_n 2, 0, 0), (317, .aload_n 0, 0, 0), (318, .iload_n 3, 0, 0), (319, .iconst 1, 0, 0), (320, .iadd, 0, 0), (321, .iaload, 0, 0)]
def K154_4 : List Ent := [(322, .invokevirtual 38, 113, 0), (325, .if_icmp .eq 515, 0, 0), (328, .iconst 0, 0, 0), (329, .ireturn, 0, 0), (330, .aload_n 1, 0, 0), (331, .aload_n 0, 0, 0), (332, .iload_n 3, 0, 0), (333, .iconst 1, 0, 0), (334, .iadd, 0, 0), (335, .iaload, 0, 0), (336, .invokevirtual 39, 61, 0), (339, .aload_n 2, 0, 0), (340, .aload_n 0, 0, 0), (341, .iload_n 3, 0, 0), (342, .iconst 1, 0, 0), (343, .iadd, 0, 0), (344, .iaload, 0, 0), (345, .invokevirtual 42, 115, 0), (348, .if_icmp .eq 492, 0, 0), (351, .iconst 0, 0, 0), (352, .ireturn, 0, 0), (353, .aload_n 1, 0, 0), (354, .aload_n 0, 0, 0), (355, .iload_n 3, 0, 0), (356, .iconst 1, 0, 0), (357, .iadd, 0, 0), (358, .iaload, 0, 0), (359, .aload_n 0, 0, 0), (360, .iload_n 3, 0, 0), (361, .iconst 2, 0, 0), (362, .iadd, 0, 0), (363, .iaload, 0, 0), (364, .invokevirtual 43, 62, 0), (367, .aload_n 2, 0, 0), (368, .aload_n 0, 0, 0), (369, .iload_n 3, 0, 0), (370, .iconst 1, 0, 0), (371, .iadd, 0, 0), (372, .iaload, 0, 0), (373, .aload_n 0, 0, 0)]
def K154_5 : List Ent := [(374, .iload_n 3, 0, 0), (375, .iconst 2, 0, 0), (376, .iadd, 0, 0), (377, .iaload, 0, 0), (378, .invokevirtual 46, 116, 0), (381, .if_icmp .eq 459, 0, 0), (384, .iconst 0, 0, 0), (385, .ireturn, 0, 0), (386, .aload_n 1, 0, 0), (387, .aload_n 0, 0, 0), (388, .iload_n 3, 0, 0), (389, .iconst 1, 0, 0), (390, .iadd, 0, 0), (391, .iaload, 0, 0), (392, .aload_n 0, 0, 0), (393, .iload_n 3, 0, 0), (394, .iconst 2, 0, 0), (395, .iadd, 0, 0), (396, .iaload, 0, 0), (397, .aload_n 0, 0, 0), (398, .iload_n 3, 0, 0), (399, .iconst 3, 0, 0), (400, .iadd, 0, 0), (401, .iaload, 0, 0), (402, .invokevirtual 47, 63, 0), (405, .aload_n 2, 0, 0), (406, .aload_n 0, 0, 0), (407, .iload_n 3, 0, 0), (408, .iconst 1, 0, 0), (409, .iadd, 0, 0), (410, .iaload, 0, 0), (411, .aload_n 0, 0, 0), (412, .iload_n 3, 0, 0), (413, .iconst 2, 0, 0), (414, .iadd, 0, 0), (415, .iaload, 0, 0), (416, .aload_n 0, 0, 0), (417, .iload_n 3, 0, 0), (418, .iconst 3, 0, 0), (419, .iadd, 0, 0)]
def K154_6 : List Ent := [(420, .iaload, 0, 0), (421, .invokevirtual 51, 118, 0), (424, .if_icmp .eq 416, 0, 0), (427, .iconst 0, 0, 0), (428, .ireturn, 0, 0), (429, .aload_n 1, 0, 0), (430, .aload_n 0, 0, 0), (431, .iload_n 3, 0, 0), (432, .iconst 1, 0, 0), (433, .iadd, 0, 0), (434, .iaload, 0, 0), (435, .invokevirtual 52, 64, 0), (438, .aload_n 2, 0, 0), (439, .aload_n 0, 0, 0), (440, .iload_n 3, 0, 0), (441, .iconst 1, 0, 0), (442, .iadd, 0, 0), (443, .iaload, 0, 0), (444, .invokevirtual 55, 122, 0), (447, .if_icmp .eq 393, 0, 0), (450, .iconst 0, 0, 0), (451, .ireturn, 0, 0), (452, .aload_n 1, 0, 0), (453, .aload_n 0, 0, 0), (454, .iload_n 3, 0, 0), (455, .iconst 1, 0, 0), (456, .iadd, 0, 0), (457, .iaload, 0, 0), (458, .aload_n 0, 0, 0), (459, .iload_n 3, 0, 0), (460, .iconst 2, 0, 0), (461, .iadd, 0, 0), (462, .iaload, 0, 0), (463, .invokevirtual 56, 65, 0), (466, .aload_n 2, 0, 0), (467, .aload_n 0, 0, 0), (468, .iload_n 3, 0, 0), (469, .iconst 1, 0, 0), (470, .iadd, 0, 0), (471, .iaload, 0, 0)]
def K154_7 : List Ent := [(472, .aload_n 0, 0, 0), (473, .iload_n 3, 0, 0), (474, .iconst 2, 0, 0), (475, .iadd, 0, 0), (476, .iaload, 0, 0), (477, .invokevirtual 59, 125, 0), (480, .if_icmp .eq 360, 0, 0), (483, .iconst 0, 0, 0), (484, .ireturn, 0, 0), (485, .aload_n 1, 0, 0), (486, .aload_n 0, 0, 0), (487, .iload_n 3, 0, 0), (488, .iconst 1, 0, 0), (489, .iadd, 0, 0), (490, .iaload, 0, 0), (491, .aload_n 0, 0, 0), (492, .iload_n 3, 0, 0), (493, .iconst 2, 0, 0), (494, .iadd, 0, 0), (495, .iaload, 0, 0), (496, .aload_n 0, 0, 0), (497, .iload_n 3, 0, 0), (498, .iconst 3, 0, 0), (499, .iadd, 0, 0), (500, .iaload, 0, 0), (501, .invokevirtual 60, 66, 0), (504, .aload_n 2, 0, 0), (505, .aload_n 0, 0, 0), (506, .iload_n 3, 0, 0), (507, .iconst 1, 0, 0), (508, .iadd, 0, 0), (509, .iaload, 0, 0), (510, .aload_n 0, 0, 0), (511, .iload_n 3, 0, 0), (512, .iconst 2, 0, 0), (513, .iadd, 0, 0), (514, .iaload, 0, 0), (515, .aload_n 0, 0, 0), (516, .iload_n 3, 0, 0), (517, .iconst 3, 0, 0)]
def K154_8 : List Ent := [(518, .iadd, 0, 0), (519, .iaload, 0, 0), (520, .invokevirtual 63, 126, 0), (523, .if_icmp .eq 317, 0, 0), (526, .iconst 0, 0, 0), (527, .ireturn, 0, 0), (528, .aload_n 1, 0, 0), (529, .aload_n 0, 0, 0), (530, .iload_n 3, 0, 0), (531, .iconst 1, 0, 0), (532, .iadd, 0, 0), (533, .iaload, 0, 0), (534, .aload_n 0, 0, 0), (535, .iload_n 3, 0, 0), (536, .iconst 2, 0, 0), (537, .iadd, 0, 0), (538, .iaload, 0, 0), (539, .invokevirtual 64, 67, 0), (542, .aload_n 2, 0, 0), (543, .aload_n 0, 0, 0), (544, .iload_n 3, 0, 0), (545, .iconst 1, 0, 0), (546, .iadd, 0, 0), (547, .iaload, 0, 0), (548, .aload_n 0, 0, 0), (549, .iload_n 3, 0, 0), (550, .iconst 2, 0, 0), (551, .iadd, 0, 0), (552, .iaload, 0, 0), (553, .invokevirtual 67, 128, 0), (556, .if_icmp .eq 284, 0, 0), (559, .iconst 0, 0, 0), (560, .ireturn, 0, 0), (561, .aload_n 1, 0, 0), (562, .aload_n 0, 0, 0), (563, .iload_n 3, 0, 0), (564, .iconst 1, 0, 0), (565, .iadd, 0, 0), (566, .iaload, 0, 0), (567, .aload_n 0, 0, 0)]
def K154_9 : List Ent := [(568, .iload_n 3, 0, 0), (569, .iconst 2, 0, 0), (570, .iadd, 0, 0), (571, .iaload, 0, 0), (572, .invokevirtual 68, 68, 0), (575, .aload_n 2, 0, 0), (576, .aload_n 0, 0, 0), (577, .iload_n 3, 0, 0), (578, .iconst 1, 0, 0), (579, .iadd, 0, 0), (580, .iaload, 0, 0), (581, .aload_n 0, 0, 0), (582, .iload_n 3, 0, 0), (583, .iconst 2, 0, 0), (584, .iadd, 0, 0), (585, .iaload, 0, 0), (586, .invokevirtual 71, 130, 0), (589, .if_icmp .eq 251, 0, 0), (592, .iconst 0, 0, 0), (593, .ireturn, 0, 0), (594, .aload_n 1, 0, 0), (595, .aload_n 0, 0, 0), (596, .iload_n 3, 0, 0), (597, .iconst 1, 0, 0), (598, .iadd, 0, 0), (599, .iaload, 0, 0), (600, .aload_n 0, 0, 0), (601, .iload_n 3, 0, 0), (602, .iconst 2, 0, 0), (603, .iadd, 0, 0), (604, .iaload, 0, 0), (605, .aload_n 0, 0, 0), (606, .iload_n 3, 0, 0), (607, .iconst 3, 0, 0), (608, .iadd, 0, 0), (609, .iaload, 0, 0), (610, .invokevirtual 72, 69, 0), (613, .aload_n 2, 0, 0), (614, .aload_n 0, 0, 0), (615, .iload_n 3, 0, 0)]
def K154_10 : List Ent := [(616, .iconst 1, 0, 0), (617, .iadd, 0, 0), (618, .iaload, 0, 0), (619, .aload_n 0, 0, 0), (620, .iload_n 3, 0, 0), (621, .iconst 2, 0, 0), (622, .iadd, 0, 0), (623, .iaload, 0, 0), (624, .aload_n 0, 0, 0), (625, .iload_n 3, 0, 0), (626, .iconst 3, 0, 0), (627, .iadd, 0, 0), (628, .iaload, 0, 0), (629, .invokevirtual 75, 132, 0), (632, .if_icmp .eq 208, 0, 0), (635, .iconst 0, 0, 0), (636, .ireturn, 0, 0), (637, .aload_n 1, 0, 0), (638, .invokevirtual 76, 70, 0), (641, .aload_n 2, 0, 0), (642, .invokevirtual 80, 134, 0), (645, .if_icmp .eq 195, 0, 0), (648, .iconst 0, 0, 0), (649, .ireturn, 0, 0), (650, .aload_n 1, 0, 0), (651, .invokevirtual 81, 71, 0), (654, .aload_n 2, 0, 0), (655, .invokevirtual 84, 135, 0), (658, .if_icmp .eq 182, 0, 0), (661, .iconst 0, 0, 0), (662, .ireturn, 0, 0), (663, .aload_n 1, 0, 0), (664, .invokevirtual 85, 72, 0), (667, .aload_n 2, 0, 0), (668, .invokevirtual 88, 137, 0), (671, .if_icmp .eq 169, 0, 0), (674, .iconst 0, 0, 0), (675, .ireturn, 0, 0), (676, .aload_n 1, 0, 0), (677, .aload_n 0, 0, 0)]
def K154_11 : List Ent := [(678, .iload_n 3, 0, 0), (679, .iconst 1, 0, 0), (680, .iadd, 0, 0), (681, .iaload, 0, 0), (682, .aload_n 0, 0, 0), (683, .iload_n 3, 0, 0), (684, .iconst 2, 0, 0), (685, .iadd, 0, 0), (686, .iaload, 0, 0), (687, .invokevirtual 89, 73, 0), (690, .aload_n 2, 0, 0), (691, .aload_n 0, 0, 0), (692, .iload_n 3, 0, 0), (693, .iconst 1, 0, 0), (694, .iadd, 0, 0), (695, .iaload, 0, 0), (696, .aload_n 0, 0, 0), (697, .iload_n 3, 0, 0), (698, .iconst 2, 0, 0), (699, .iadd, 0, 0), (700, .iaload, 0, 0), (701, .invokevirtual 92, 138, 0), (704, .if_icmp .eq 136, 0, 0), (707, .iconst 0, 0, 0), (708, .ireturn, 0, 0), (709, .aload_n 1, 0, 0), (710, .aload_n 0, 0, 0), (711, .iload_n 3, 0, 0), (712, .iconst 1, 0, 0), (713, .iadd, 0, 0), (714, .iaload, 0, 0), (715, .invokevirtual 93, 74, 0), (718, .aload_n 2, 0, 0), (719, .aload_n 0, 0, 0), (720, .iload_n 3, 0, 0), (721, .iconst 1, 0, 0), (722, .iadd, 0, 0), (723, .iaload, 0, 0), (724, .invokevirtual 96, 139, 0), (727, .if_icmp .eq 113, 0, 0)]
def K154_12 : List Ent := [(730, .iconst 0, 0, 0), (731, .ireturn, 0, 0), (732, .aload_n 1, 0, 0), (733, .aload_n 0, 0, 0), (734, .iload_n 3, 0, 0), (735, .iconst 1, 0, 0), (736, .iadd, 0, 0), (737, .iaload, 0, 0), (738, .invokevirtual 97, 75, 0), (741, .aload_n 2, 0, 0), (742, .aload_n 0, 0, 0), (743, .iload_n 3, 0, 0), (744, .iconst 1, 0, 0), (745, .iadd, 0, 0), (746, .iaload, 0, 0), (747, .invokevirtual 100, 140, 0), (750, .if_icmp .eq 90, 0, 0), (753, .iconst 0, 0, 0), (754, .ireturn, 0, 0), (755, .aload_n 1, 0, 0), (756, .invokevirtual 101, 76, 0), (759, .aload_n 2, 0, 0), (760, .invokevirtual 104, 141, 0), (763, .if_icmp .eq 77, 0, 0), (766, .iconst 0, 0, 0), (767, .ireturn, 0, 0), (768, .aload_n 1, 0, 0), (769, .aload_n 0, 0, 0), (770, .iload_n 3, 0, 0), (771, .iconst 1, 0, 0), (772, .iadd, 0, 0), (773, .iaload, 0, 0), (774, .invokevirtual 105, 77, 0), (777, .aload_n 2, 0, 0), (778, .aload_n 0, 0, 0), (779, .iload_n 3, 0, 0), (780, .iconst 1, 0, 0), (781, .iadd, 0, 0), (782, .iaload, 0, 0), (783, .invokevirtual 108, 142, 0)]
def K154_13 : List Ent := [(786, .if_icmp .eq 54, 0, 0), (789, .iconst 0, 0, 0), (790, .ireturn, 0, 0), (791, .aload_n 1, 0, 0), (792, .invokevirtual 109, 78, 0), (795, .aload_n 2, 0, 0), (796, .invokevirtual 112, 143, 0), (799, .if_icmp .eq 41, 0, 0), (802, .iconst 0, 0, 0), (803, .ireturn, 0, 0), (804, .aload_n 1, 0, 0), (805, .aload_n 0, 0, 0), (806, .iload_n 3, 0, 0), (807, .iconst 1, 0, 0), (808, .iadd, 0, 0), (809, .iaload, 0, 0), (810, .invokevirtual 113, 79, 0), (813, .aload_n 2, 0, 0), (814, .aload_n 0, 0, 0), (815, .iload_n 3, 0, 0), (816, .iconst 1, 0, 0), (817, .iadd, 0, 0), (818, .iaload, 0, 0), (819, .invokevirtual 116, 151, 0), (822, .if_icmp .eq 18, 0, 0), (825, .iconst 0, 0, 0), (826, .ireturn, 0, 0), (827, .aload_n 1, 0, 0), (828, .invokevirtual 117, 80, 0), (831, .aload_n 2, 0, 0), (832, .invokevirtual 120, 152, 0), (835, .if_icmp .eq 5, 0, 0), (838, .iconst 0, 0, 0), (839, .ireturn, 0, 0), (840, .iinc 3 4, 0, 0), (843, .goto (-825), 0, 0), (846, .iconst 1, 0, 0), (847, .ireturn, 0, 0)]
def K154 : List Ent := K154_0 ++ (K154_1 ++ (K154_2 ++ (K154_3 ++ (K154_4 ++ (K154_5 ++ (K154_6 ++ (K154_7 ++ (K154_8 ++ (K154_9 ++ (K154_10 ++ (K154_11 ++ (K154_12 ++ (K154_13)))))))))))))
def KL_0 : List (List Ent) := [K0, K1, K2, K3, K4, K5, K6, K7, K8, K9, K10, K11, K12, K13, K14, K15, K16, K17, K18, K19]
def KL_1 : List (List Ent) := [K20, K21, K22, K23, K24, K25, K26, K27, K28, K29, K30, K31, K32, K33, K34, K35, K36, K37, K38, K39]
def KL_2 : List (List Ent) := [K40, K41, K42, K43, K44, K45, K46, K47, K48, K49, K50, K51, K52, K53, K54, K55, K56, K57, K58, K59]
def KL_3 : List (List Ent) := [K60, K61, K62, K63, K64, K65, K66, K67, K68, K69, K70, K71, K72, K73, K74, K75, K76, K77, K78, K79]
def KL_4 : List (List Ent) := [K80, K81, K82, K83, K84, K85, K86, K87, K88, K89, K90, K91, K92, K93, K94, K95, K96, K97, K98, K99]
def KL_5 : List (List Ent) := [K100, K101, K102, K103, K104, K105, K106, K107, K108, K109, K110, K111, K112, K113, K114, K115, K116, K117, K118, K119]
def KL_6 : List (List Ent) := [K120, K121, K122, K123, K124, K125, K126, K127, K128, K129, K130, K131, K132, K133, K134, K135, K136, K137, K138, K139]
def KL_7 : List (List Ent) := [K140, K141, K142, K143, K144, K145, K146, K147, K148, K149, K150, K151, K152, K153, K154]
def KL : List (List Ent) := KL_0 ++ (KL_1 ++ (KL_2 ++ (KL_3 ++ (KL_4 ++ (KL_5 ++ (KL_6 ++ (KL_7)))))))
def kOf (y : Nat) : List Ent := KL.getD y []
def vD : vw_C := (RX0, TX0, 0)
def vAt (c : Nat) : vw_C := vwCl.getD c vD
/-- the length of an instruction -/
def ilen (e : Ent) : Nat := match e.2.1 with
  | .bipush _ | .iload _ | .aload _ | .istore _ | .astore _ | .ldc _ | .newarray _ => 2
  | .sipush _ | .iinc _ _ | .ldc_w _ | .getfield _ | .putfield _ | .invokevirtual _ | .invokestatic _ | .invokespecial _ | .new _ | .anewarray _ | .goto _ | .ifCond _ _ | .if_icmp _ _ | .ifnull _ | .ifnonnull _ => 3
  | .tableswitch _ _ _ _ | .lookupswitch _ _ => e.2.2.1
  | _ => 1
def ACP : Nat := 1000
def OBJ : Nat := 1001
def aKind (k : Nat) : String := if k = 1 then RX0 else if k = 2 then RX1 else RX3
def linkW (y : Nat) (i : Nat) (e : Ent) : Cond := if e.2.2.2 = 1 then .methodLinkNest (mOwn y) i (mName e.2.2.1) RX4 else .methodLink (mOwn y) i (mName e.2.2.1)
/-- the words that an instruction asks of the tables -/
def needs (y : Nat) (e : Ent) : List Cond := match e.2.1 with
  | .getfield i | .putfield i => [.fieldLink (mOwn y) i ((vAt e.2.2.1).2.1 e.2.2.2.toNat).1 ((vAt e.2.2.1).2.1 e.2.2.2.toNat).2.1 ((vAt e.2.2.1).2.1 e.2.2.2.toNat).2.2.1]
  | .ldc i | .ldc_w i => [.constant (mOwn y) i (Int32.ofInt e.2.2.2)]
  | .invokevirtual i => [linkW y i e, .code (mName e.2.2.1) (mCode e.2.2.1) (mMaxL e.2.2.1) (mRet e.2.2.1), .initialized (mName e.2.2.1).cls, .instanceMethod (mName e.2.2.1), .selects (mName e.2.2.1).cls (mName e.2.2.1) (mName e.2.2.1)]
  | .invokestatic i => if e.2.2.1 = ACP then [.methodLink (mOwn y) i arraycopyName, .native arraycopyName, .static arraycopyName, .initialized "java/lang/System"]
      else [linkW y i e, .code (mName e.2.2.1) (mCode e.2.2.1) (mMaxL e.2.2.1) (mRet e.2.2.1), .initialized (mName e.2.2.1).cls, .static (mName e.2.2.1)]
  | .invokespecial i => if e.2.2.1 = OBJ then [.methodLink (mOwn y) i objectInit, .instanceMethod objectInit, .code objectInit ⟨#[0xb1]⟩ 1 none]
      else [linkW y i e, .code (mName e.2.2.1) (mCode e.2.2.1) (mMaxL e.2.2.1) (mRet e.2.2.1), .initialized (mName e.2.2.1).cls, .instanceMethod (mName e.2.2.1)]
  | .new i => [.classLink (mOwn y) i (vAt e.2.2.1).1, .instantiable (vAt e.2.2.1).1 (vAt e.2.2.1).2.2, .initialized (vAt e.2.2.1).1]
  | .anewarray i => [.classLink (mOwn y) i (aKind e.2.2.1), .arrayOver (.object (aKind e.2.2.1))]
  | .newarray _ => [.arrayClass .int]
  | _ => []
/-- what a call asks of room and names -/
def callOk (y z : Nat) : Bool := decide (z < NM) && decide (mFr z + 1 ≤ mFr y) && decide (8 + (mMaxL z + 11) + mLo z ≤ mLo y) && decide ((parseMethodDescriptor (mName z).desc).map (fun d => d.parameters.length) = some (mArgs z)) && decide ((mName z).cls ≠ "java/lang/invoke/MethodHandle") && decide ((mName z).cls ≠ "java/lang/invoke/VarHandle") && decide (mArgs z + (if mStat z then 0 else 1) ≤ mMaxL z) && plainName (mName z).cls
def tgtOk (e : Ent) (off : Int) : Bool := decide (0 ≤ (e.1 : Int) + off)
def eok (y : Nat) (e : Ent) : Bool := decide (decode (mCode y) e.1 = .ok (e.2.1, ilen e)) && (match e.2.1 with
  | .goto o | .ifCond _ o | .if_icmp _ o | .ifnull o | .ifnonnull o => tgtOk e o
  | .tableswitch d _ _ os => tgtOk e d && os.toList.all (tgtOk e)
  | .lookupswitch d ps => tgtOk e d && ps.toList.all (fun q => tgtOk e q.2) && (ps.toList.zip (ps.toList.drop 1)).all (fun q => q.1.1 < q.2.1)
  | .getfield _ => decide (e.2.2.1 < 6) && decide (e.2.2.2.toNat < (vAt e.2.2.1).2.2)
  | .putfield _ => decide (e.2.2.1 < 6) && decide (e.2.2.2.toNat < (vAt e.2.2.1).2.2) && (!((vAt e.2.2.1).2.1 e.2.2.2.toNat).2.2.2 || (mIni y && decide (((vAt e.2.2.1).2.1 e.2.2.2.toNat).1 = mOwn y)))
  | .new _ => decide (e.2.2.1 < 6)
  | .newarray t => decide (t = .int)
  | .anewarray _ => decide (e.2.2.1 = 1) || decide (e.2.2.1 = 2) || decide (e.2.2.1 = 3)
  | .invokevirtual _ => callOk y e.2.2.1 && decide (mCi e.2.2.1 < 6) && decide ((vAt (mCi e.2.2.1)).1 = (mName e.2.2.1).cls) && !mStat e.2.2.1
  | .invokestatic _ => if e.2.2.1 = ACP then decide (1 ≤ mFr y) && decide (26 ≤ mLo y) else callOk y e.2.2.1 && mStat e.2.2.1
  | .invokespecial _ => if e.2.2.1 = OBJ then decide (1 ≤ mFr y) && decide (20 ≤ mLo y) else callOk y e.2.2.1 && decide ((mName e.2.2.1).name = "<init>") && decide (mRet e.2.2.1 = none) && !mStat e.2.2.1
  | _ => true)
/-- the words of the tables that stay over a call -/
def GW : List Cond := lw_tbl.filter goodWord
/-- a word that stays over a call, or one of the two kinds that are carried by hand -/
def carW : Cond → Bool
  | .methodLinkNest _ _ _ _ => true
  | .arrayOver (.object _) => true
  | _ => false
def NW : List Cond := lw_tbl.filter carW
def okW (w : Cond) : Bool := goodWord w || carW w
def pl (ps : List (List Nat)) : List (List Cond) := ps.map (fun l => l.filterMap (fun p => lw_tbl[p]?))
theorem pl_in {y : Nat} {es : List Ent} {ps : List (List Nat)} (h : es.map (needs y) = pl ps) (hg : es.all (fun e => (needs y e).all okW) = true) : ∀ e ∈ es, ∀ w ∈ needs y e, w ∈ lw_tbl ∧ okW w = true := by
  intro e he w hw
  refine ⟨?_, List.all_eq_true.mp (List.all_eq_true.mp hg e he) w hw⟩
  have h1 : needs y e ∈ pl ps := h ▸ List.mem_map.mpr ⟨e, he, rfl⟩
  obtain ⟨l, -, hl⟩ := List.mem_map.mp h1
  rw [← hl] at hw
  obtain ⟨p, -, hp⟩ := List.mem_filterMap.mp hw
  exact List.mem_of_getElem? hp
end
section
/-! A machine of our own over the program as data: one step, a run with fuel, and (next part) that W follows it. -/
abbrev AE : Type := (Nat × Nat × ((Nat → Int32) ⊕ (Nat → Option Nat))) ⊕ (Nat × List Value)
abbrev AHp : Type := List AE
abbrev Scr : Type := Option (Nat × (Nat → Int32))
def tv (B b : Nat) : Value → Value
  | .ref a => .ref (B + a)
  | .retAddr _ => .ref b
  | v => v
def tE (B b : Nat) (dA : Nat → ClassId) : AE → va_E
  | .inl (k, n, .inl f) => .inl (dA k, n, .inl f)
  | .inl (k, n, .inr f) => .inl (dA k, n, .inr (.inr (.inr (.inr (fun j => (f j).map (B + ·))))))
  | .inr (c, fs) => .inr (c, fs.map (tv B b))
def szE : AE → Nat
  | .inl (_, n, _) => n
  | .inr (_, fs) => fs.length
def szH (h : AHp) : Nat := (h.map szE).sum
def arf : Option Nat → Value
  | none => .null
  | some a => .ref a
def dflt (c : Nat) : List Value := match c with
  | 0 => [.null, .null, .null, .int 0]
  | 1 => [.int 0, .int 0, .int 0, .int 0, .null]
  | 2 => [.null, .int 0, .int 0, .int 0, .int 0, .int 0, .int 0, .null, .int 0]
  | 3 => [.null, .int 0, .null, .null, .int 0, .null, .int 0, .int 0, .int 0, .int 0, .int 0]
  | 4 => [.null, .null, .null, .int 0, .null, .null]
  | _ => [.null, .null, .null, .null, .int 0, .int 0, .null, .int 0, .int 0, .int 0, .int 0, .int 0, .int 0, .int 0, .null]
def tyAt (c : Nat) : Nat → FieldType := match c with
  | 0 => tyX0
  | 1 => tyX1
  | 2 => tyX2
  | 3 => tyX3
  | 4 => tyX4
  | _ => tyX5
def vOk (ty : FieldType) (v : Value) : Bool := match ty, v with
  | .int, .int _ => true
  | .boolean, .int x => x == 0 || x == 1
  | .object _, .ref _ => true
  | .object _, .null => true
  | .array _, .ref _ => true
  | .array _, .null => true
  | _, _ => false
/-- which class an array of references holds -/
def kindC (k : Nat) : Nat := if k = 1 then 0 else if k = 2 then 1 else 3
def pcT (pc : Nat) (o : Int) : Nat := ((pc : Int) + o).toNat
def cB : ClassFile.Cond → Int32 → Int32 → Bool
  | .eq, x, y => decide (x = y)
  | .ne, x, y => decide (¬ x = y)
  | .lt, x, y => decide (x < y)
  | .ge, x, y => decide (y ≤ x)
  | .gt, x, y => decide (y < x)
  | .le, x, y => decide (x ≤ y)
def swT (pc : Nat) (d lo hi : Int) (os : Array Int) (x : Int32) : Nat := if x.toInt < lo ∨ hi < x.toInt then pcT pc d else match os[(x.toInt - lo).toNat]? with
  | some o => pcT pc o
  | none => 0
def swOk (lo hi : Int) (os : Array Int) (x : Int32) : Bool := decide (x.toInt < lo ∨ hi < x.toInt) || (os[(x.toInt - lo).toNat]?).isSome
abbrev Cfg : Type := Nat × List Value × List Value × AHp
/-- one instruction that neither calls nor returns -/
def ex1 (sc : Scr) (e : Ent) (ls stk : List Value) (h : AHp) : Option Cfg := match e.2.1 with
  | .iconst n => some (e.1 + 1, ls, .int (Int32.ofInt n) :: stk, h)
  | .bipush n => some (e.1 + 2, ls, .int (Int8.ofInt n).toInt32 :: stk, h)
  | .sipush n => some (e.1 + 3, ls, .int (Int16.ofInt n).toInt32 :: stk, h)
  | .ldc _ => some (e.1 + 2, ls, .int (Int32.ofInt e.2.2.2) :: stk, h)
  | .ldc_w _ => some (e.1 + 3, ls, .int (Int32.ofInt e.2.2.2) :: stk, h)
  | .aconst_null => some (e.1 + 1, ls, .null :: stk, h)
  | .iload_n k => match ls[k.val]? with
    | some (.int x) => some (e.1 + 1, ls, .int x :: stk, h)
    | _ => none
  | .iload k => match ls[k]? with
    | some (.int x) => some (e.1 + 2, ls, .int x :: stk, h)
    | _ => none
  | .aload_n k => match ls[k.val]? with
    | some (.ref a) => some (e.1 + 1, ls, .ref a :: stk, h)
    | some (.retAddr a) => some (e.1 + 1, ls, .retAddr a :: stk, h)
    | some .null => some (e.1 + 1, ls, .null :: stk, h)
    | _ => none
  | .aload k => match ls[k]? with
    | some (.ref a) => some (e.1 + 2, ls, .ref a :: stk, h)
    | _ => none
  | .istore_n k => match stk with
    | .int x :: r => if k.val < ls.length then some (e.1 + 1, ls.set k.val (.int x), r, h) else none
    | _ => none
  | .istore k => match stk with
    | .int x :: r => if k < ls.length then some (e.1 + 2, ls.set k (.int x), r, h) else none
    | _ => none
  | .astore_n k => match stk with
    | .ref a :: r => if k.val < ls.length then some (e.1 + 1, ls.set k.val (.ref a), r, h) else none
    | .null :: r => if k.val < ls.length then some (e.1 + 1, ls.set k.val .null, r, h) else none
    | _ => none
  | .astore k => match stk with
    | .ref a :: r => if k < ls.length then some (e.1 + 2, ls.set k (.ref a), r, h) else none
    | _ => none
  | .iinc k n => match ls[k]? with
    | some (.int x) => some (e.1 + 3, ls.set k (.int (x + Int32.ofInt n)), stk, h)
    | _ => none
  | .iadd => match stk with
    | .int y :: .int x :: r => some (e.1 + 1, ls, .int (x + y) :: r, h)
    | _ => none
  | .isub => match stk with
    | .int y :: .int x :: r => some (e.1 + 1, ls, .int (x - y) :: r, h)
    | _ => none
  | .imul => match stk with
    | .int y :: .int x :: r => some (e.1 + 1, ls, .int (x * y) :: r, h)
    | _ => none
  | .iand => match stk with
    | .int y :: .int x :: r => some (e.1 + 1, ls, .int (x &&& y) :: r, h)
    | _ => none
  | .ior => match stk with
    | .int y :: .int x :: r => some (e.1 + 1, ls, .int (x ||| y) :: r, h)
    | _ => none
  | .ixor => match stk with
    | .int y :: .int x :: r => some (e.1 + 1, ls, .int (x ^^^ y) :: r, h)
    | _ => none
  | .ishl => match stk with
    | .int y :: .int x :: r => some (e.1 + 1, ls, .int (x <<< (y &&& 31)) :: r, h)
    | _ => none
  | .ishr => match stk with
    | .int y :: .int x :: r => some (e.1 + 1, ls, .int (x >>> (y &&& 31)) :: r, h)
    | _ => none
  | .iushr => match stk with
    | .int y :: .int x :: r => some (e.1 + 1, ls, .int (x.toUInt32 >>> (y.toUInt32 &&& Int32.toUInt32 31)).toInt32 :: r, h)
    | _ => none
  | .irem => match stk with
    | .int y :: .int x :: r => if y = 0 then none else some (e.1 + 1, ls, .int (x - x / y * y) :: r, h)
    | _ => none
  | .dup => match stk with
    | v :: r => if v.category = 1 then some (e.1 + 1, ls, v :: v :: r, h) else none
    | _ => none
  | .dup2 => match stk with
    | v :: w :: r => if v.category = 1 ∧ w.category = 1 then some (e.1 + 1, ls, v :: w :: v :: w :: r, h) else none
    | _ => none
  | .pop => match stk with
    | v :: r => if v.category = 1 then some (e.1 + 1, ls, r, h) else none
    | _ => none
  | .goto o => some (pcT e.1 o, ls, stk, h)
  | .ifCond c o => match stk with
    | .int x :: r => some (if cB c x 0 then pcT e.1 o else e.1 + 3, ls, r, h)
    | _ => none
  | .if_icmp c o => match stk with
    | .int y :: .int x :: r => some (if cB c x y then pcT e.1 o else e.1 + 3, ls, r, h)
    | _ => none
  | .ifnull o => match stk with
    | .ref _ :: r => some (e.1 + 3, ls, r, h)
    | .null :: r => some (pcT e.1 o, ls, r, h)
    | _ => none
  | .ifnonnull o => match stk with
    | .ref _ :: r => some (pcT e.1 o, ls, r, h)
    | .null :: r => some (e.1 + 3, ls, r, h)
    | _ => none
  | .tableswitch d lo hi os => match stk with
    | .int x :: r => if swOk lo hi os x then some (swT e.1 d lo hi os x, ls, r, h) else none
    | _ => none
  | .lookupswitch d ps => match stk with
    | .int x :: r => some (pcT e.1 (Op.lookupswitch.offset ps.toList d x.toInt), ls, r, h)
    | _ => none
  | .arraylength => match stk, sc with
    | .retAddr _ :: r, some (L, _) => some (e.1 + 1, ls, .int (Int32.ofNat L) :: r, h)
    | _, _ => none
  | .iaload => match stk with
    | .int j :: .ref a :: r => match h[a]? with
      | some (.inl (0, n, .inl f)) => if j < 0 ∨ n ≤ j.toNatClampNeg then none else some (e.1 + 1, ls, .int (f j.toNatClampNeg) :: r, h)
      | _ => none
    | .int j :: .retAddr _ :: r => match sc with
      | some (L, xs) => if j < 0 ∨ L ≤ j.toNatClampNeg then none else some (e.1 + 1, ls, .int (xs j.toNatClampNeg) :: r, h)
      | _ => none
    | _ => none
  | .iastore => match stk with
    | .int x :: .int j :: .ref a :: r => match h[a]? with
      | some (.inl (0, n, .inl f)) => if j < 0 ∨ n ≤ j.toNatClampNeg then none else some (e.1 + 1, ls, r, h.set a (.inl (0, n, .inl (upd f j.toNatClampNeg x))))
      | _ => none
    | _ => none
  | .aaload => match stk with
    | .int j :: .ref a :: r => match h[a]? with
      | some (.inl (k, n, .inr f)) => if k = 0 ∨ 4 ≤ k ∨ j < 0 ∨ n ≤ j.toNatClampNeg then none else some (e.1 + 1, ls, arf (f j.toNatClampNeg) :: r, h)
      | _ => none
    | _ => none
  | .aastore => match stk with
    | .ref v :: .int j :: .ref a :: r => match h[a]?, h[v]? with
      | some (.inl (k, n, .inr f)), some (.inr (c, _)) => if k = 0 ∨ 4 ≤ k ∨ ¬ c = kindC k ∨ j < 0 ∨ n ≤ j.toNatClampNeg then none else some (e.1 + 1, ls, r, h.set a (.inl (k, n, .inr (va_up f j.toNatClampNeg (some v)))))
      | _, _ => none
    | _ => none
  | .newarray _ => match stk with
    | .int n :: r => if n < 0 ∨ 100000 < n.toNatClampNeg then none else some (e.1 + 2, ls, .ref h.length :: r, h ++ [.inl (0, n.toNatClampNeg, .inl (fun _ => 0))])
    | _ => none
  | .anewarray _ => match stk with
    | .int n :: r => if n < 0 ∨ 100000 < n.toNatClampNeg then none else some (e.1 + 3, ls, .ref h.length :: r, h ++ [.inl (e.2.2.1, n.toNatClampNeg, .inr (fun _ => none))])
    | _ => none
  | .new _ => some (e.1 + 3, ls, .ref h.length :: stk, h ++ [.inr (e.2.2.1, dflt e.2.2.1)])
  | .getfield _ => match stk with
    | .ref a :: r => match h[a]? with
      | some (.inr (c, fs)) => if c = e.2.2.1 then match fs[e.2.2.2.toNat]? with
        | some v => some (e.1 + 3, ls, v :: r, h)
        | none => none
        else none
      | _ => none
    | _ => none
  | .putfield _ => match stk with
    | v :: .ref a :: r => match h[a]? with
      | some (.inr (c, fs)) => if c = e.2.2.1 ∧ e.2.2.2.toNat < fs.length ∧ vOk (tyAt c e.2.2.2.toNat) v = true then some (e.1 + 3, ls, r, h.set a (.inr (c, fs.set e.2.2.2.toNat v))) else none
      | _ => none
    | _ => none
  | .invokespecial _ => if e.2.2.1 = OBJ then match stk with
    | .ref _ :: r => if r.length ≤ 8 ∧ r.all (fun v => v.category == 1) = true then some (e.1 + 3, ls, r, h) else none
    | _ => none
    else none
  | .invokestatic _ => if e.2.2.1 = ACP then match stk with
    | .int n :: .int dp :: .ref a :: .int sp :: .ref a0 :: r => match h[a0]?, h[a]? with
      | some (.inl (0, n0, .inl f)), some (.inl (0, n1, .inl g)) => if sp < 0 ∨ dp < 0 ∨ n < 0 ∨ n0 < sp.toNatClampNeg + n.toNatClampNeg ∨ n1 < dp.toNatClampNeg + n.toNatClampNeg ∨ ¬ (r.length ≤ 8 ∧ r.all (fun v => v.category == 1) = true) then none
        else some (e.1 + 3, ls, r, h.set a (.inl (0, n1, .inl (va_cpy f g sp.toNatClampNeg dp.toNatClampNeg n.toNatClampNeg))))
      | _, _ => none
    | _ => none
    else none
  | _ => none
def kindI (i : Instr) (r1 : Nat) : Nat := match i with
  | .ireturn | .areturn | .return_ => 1
  | .invokevirtual _ => 2
  | .invokestatic _ => if r1 = ACP then 0 else 2
  | .invokespecial _ => if r1 = OBJ then 0 else 2
  | _ => 0
def isObj : Option FieldType → Bool
  | some (.object _) => true
  | _ => false
def zRet (y : Nat) (i : Instr) (stk : List Value) : Option (Option Value) := match i, stk with
  | .ireturn, [.int v] => if mRet y = some .int ∨ (mRet y = some .boolean ∧ (v = 0 ∨ v = 1)) then some (some (.int v)) else none
  | .areturn, [.ref a] => if isObj (mRet y) = true then some (some (.ref a)) else none
  | .return_, [] => if mRet y = none then some none else none
  | _, _ => none
def zCall (i : Instr) (z : Nat) (stk : List Value) (h : AHp) : Option (List Value × List Value) :=
  if ¬ (mArgs z ≤ stk.length ∧ stk.length ≤ 8 ∧ stk.all (fun v => v.category == 1) = true) then none else match i with
  | .invokestatic _ => some ((stk.take (mArgs z)).reverse, stk.drop (mArgs z))
  | .invokevirtual _ => match stk.drop (mArgs z) with
    | .ref b :: r => match h[b]? with
      | some (.inr (c, _)) => if c = mCi z then some (.ref b :: (stk.take (mArgs z)).reverse, r) else none
      | _ => none
    | _ => none
  | .invokespecial _ => match stk.drop (mArgs z) with
    | .ref b :: r => some (.ref b :: (stk.take (mArgs z)).reverse, r)
    | _ => none
  | _ => none
def ent0 (z : Nat) (as : List Value) : List Value := as ++ List.replicate (mMaxL z - as.length) (.long 0)
def fet (y pc : Nat) : Option Ent := (kOf y).find? (fun e => e.1 == pc)
def run : Nat → Scr → Nat → Nat → List Value → List Value → AHp → Option (Option Value × AHp)
  | 0, _, _, _, _, _, _ => none
  | n + 1, sc, y, pc, ls, stk, h =>
    match fet y pc with
    | none => none
    | some e =>
      match kindI e.2.1 e.2.2.1 with
      | 0 => (ex1 sc e ls stk h).bind (fun q => run n sc y q.1 q.2.1 q.2.2.1 q.2.2.2)
      | 1 => (zRet y e.2.1 stk).map (fun v => (v, h))
      | _ => (zCall e.2.1 e.2.2.1 stk h).bind (fun q => (run n none e.2.2.1 0 (ent0 e.2.2.1 q.1) [] h).bind (fun r => run n sc y (e.1 + 3) ls (r.1.toList ++ q.2) r.2))
theorem fet_spec {y pc : Nat} {e : Ent} (h : fet y pc = some e) : e ∈ kOf y ∧ e.1 = pc := by
  unfold fet at h
  exact ⟨List.mem_of_find?_eq_some h, by simpa using List.find?_some h⟩
theorem szH_set {h : AHp} {i : Nat} {e0 e : AE} (hi : h[i]? = some e0) (hs : szE e = szE e0) : szH (h.set i e) = szH h := by
  unfold szH
  rw [List.map_set]
  congr 1
  apply List.ext_getElem?
  intro k
  rw [List.getElem?_set]
  by_cases hk : i = k
  · subst hk
    rw [if_pos rfl, List.length_map, if_pos (List.getElem?_eq_some_iff.mp hi).1, List.getElem?_map, hi, hs]; rfl
  · rw [if_neg hk]
theorem szH_push (h : AHp) (e : AE) : szH (h ++ [e]) = szH h + szE e := by
  simp [szH, List.sum_append]
end
section
/-! W follows the machine of part 08: one step. -/
def tysL (dA : Nat → ClassId) : List (ClassId × FieldType) := [(dA 0, .int), (dA 1, .object RX0), (dA 2, .object RX1), (dA 3, .object RX3)]
def Rp (B b : Nat) (D : va_G) (dA : Nat → ClassId) (h : AHp) (H : Heap) : Prop := H.size = B + h.length ∧ ∀ (k : Nat) (e : AE), h[k]? = some e → va_at D vwCl (B + k, tE B b dA e) H
def LV (B b n : Nat) (ls : List Value) (lsR : Array Slot) : Prop := lsR.size = n ∧ ls.length = n ∧ lv_wf lsR ∧ ∀ (k : Nat) (v : Value), ls[k]? = some v → v.category = 1 → lsR[k]? = some (.val (tv B b v))
/-- what part 80 on decides of the program as data -/
def KOK : Prop := (∀ y, y < NM → (kOf y).all (eok y) = true) ∧ (∀ y, y < NM → ∀ e ∈ kOf y, ∀ w ∈ needs y e, w ∈ lw_tbl ∧ okW w = true) ∧ (∀ c, c < 6 → ∀ w ∈ u_ws (vAt c).1 (vAt c).2.1 (vAt c).2.2, w ∈ GW) ∧ (∀ y, y < NM → mOwn y = (mName y).cls ∧ (mIni y = true → (mName y).name = "<init>"))
def Cx (B b : Nat) (D : va_G) (dA : Nat → ClassId) (p : Program) (R : Room) (s : State) (m : MethodId) (args : Array Value) (meth : Method) (c : Code) (y : Nat) (sc : Scr) : Prop :=
  p.tables.exec = Jvm.exec ∧ c.code = mCode y ∧ c.maxLocals = mMaxL y ∧ s.vm.findClass (mOwn y) = some m.cls ∧ (∀ w ∈ lw_tbl, okW w = true → w.before args s = true) ∧ va_K D vwCl (tysL dA) s ∧ (mIni y = true → meth.name = "<init>") ∧ mFr y ≤ R.frames ∧ mLo y ≤ R.locals ∧ (y < NM ∧ KOK) ∧ B ≤ s.heap.size ∧ (∀ L xs, sc = some (L, xs) → va_X b L xs s s.heap ∧ b < B)
theorem tv_cat (B b : Nat) (v : Value) : (tv B b v).category = v.category := by cases v <;> rfl
theorem tyAt_ok {c : Nat} (h : c < 6) : ∀ k, k < (vAt c).2.2 → parseFieldDescriptor ((vAt c).2.1 k).2.2.1 = some (tyAt c k) := by
  rcases (show c = 0 ∨ c = 1 ∨ c = 2 ∨ c = 3 ∨ c = 4 ∨ c = 5 by omega) with rfl | rfl | rfl | rfl | rfl | rfl
  · exact tyX0_ok
  · exact tyX1_ok
  · exact tyX2_ok
  · exact tyX3_ok
  · exact tyX4_ok
  · exact tyX5_ok
theorem nmAt {c : Nat} (h : c < 6) : ∀ a, a < (vAt c).2.2 → ∀ b, b < (vAt c).2.2 → a ≠ b → ((vAt c).2.1 a).2.1 ≠ ((vAt c).2.1 b).2.1 := by
  rcases (show c = 0 ∨ c = 1 ∨ c = 2 ∨ c = 3 ∨ c = 4 ∨ c = 5 by omega) with rfl | rfl | rfl | rfl | rfl | rfl
  · exact nmX0
  · exact nmX1
  · exact nmX2
  · exact nmX3
  · exact nmX4
  · exact nmX5
theorem vw_at {c : Nat} (h : c < 6) : vwCl[c]? = some ((vAt c).1, (vAt c).2.1, (vAt c).2.2) := by
  rcases (show c = 0 ∨ c = 1 ∨ c = 2 ∨ c = 3 ∨ c = 4 ∨ c = 5 by omega) with rfl | rfl | rfl | rfl | rfl | rfl <;> rfl
theorem vw_lt {c : Nat} {r : vw_C} (h : vwCl[c]? = some r) : c < 6 := (List.getElem?_eq_some_iff.mp h).1
theorem dflt_ok {c : Nat} (h : c < 6) : (dflt c).length = (vAt c).2.2 ∧ ∀ B b j, j < (vAt c).2.2 → defaultValue (tyAt c j) = vp_V ((dflt c).map (tv B b)) j := by
  have key : ∀ B b, (dflt c).map (tv B b) = dflt c := by
    intro B b
    rcases (show c = 0 ∨ c = 1 ∨ c = 2 ∨ c = 3 ∨ c = 4 ∨ c = 5 by omega) with rfl | rfl | rfl | rfl | rfl | rfl <;> rfl
  have k2 : (dflt c).length = (vAt c).2.2 ∧ ∀ j, j < (vAt c).2.2 → defaultValue (tyAt c j) = vp_V (dflt c) j := by
    rcases (show c = 0 ∨ c = 1 ∨ c = 2 ∨ c = 3 ∨ c = 4 ∨ c = 5 by omega) with rfl | rfl | rfl | rfl | rfl | rfl <;> exact ⟨rfl, by decide +kernel⟩
  exact ⟨k2.1, fun B b j hj => by rw [key]; exact k2.2 j hj⟩
theorem vOk_spec {ty : FieldType} {v : Value} (B b : Nat) (h : vOk ty v = true) : narrow ty (tv B b v) = tv B b v ∧ fits ty (tv B b v) = true := by
  unfold vOk at h
  split at h
  · exact ⟨rfl, rfl⟩
  · rename_i x
    rcases (show x = 0 ∨ x = 1 by simpa using h) with rfl | rfl <;> exact ⟨rfl, rfl⟩
  · exact ⟨rfl, rfl⟩
  · exact ⟨rfl, rfl⟩
  · exact ⟨rfl, rfl⟩
  · exact ⟨rfl, rfl⟩
  · cases h
section RPL
variable {B b : Nat} {D : va_G} {dA : Nat → ClassId} {h : AHp} {H H1 : Heap}
theorem rp_set {k : Nat} {e0 e : AE} (hR : Rp B b D dA h H) (hk : h[k]? = some e0) (he : va_at D vwCl (B + k, tE B b dA e) H1) (hz : H1.size = H.size) (oq : ∀ q : Nat, q ≠ B + k → H1[q]? = H[q]?) : Rp B b D dA (h.set k e) H1 := by
  have hl := (List.getElem?_eq_some_iff.mp hk).1
  refine ⟨by rw [hz, hR.1, List.length_set], fun j e1 hj => ?_⟩
  by_cases hjk : j = k
  · subst hjk
    rw [List.getElem?_set_self hl] at hj
    cases hj
    exact he
  · rw [List.getElem?_set_ne (Ne.symm hjk)] at hj
    exact (hR.2 j e1 hj).kept (oq _ (by show B + j ≠ B + k; omega))
theorem rp_push {e : AE} (hR : Rp B b D dA h H) (he : va_at D vwCl (B + h.length, tE B b dA e) H1) (hz : H1.size = H.size + 1) (oq : ∀ q : Nat, q < H.size → H1[q]? = H[q]?) : Rp B b D dA (h ++ [e]) H1 := by
  refine ⟨by rw [hz, hR.1, List.length_append]; rfl, fun j e1 hj => ?_⟩
  by_cases hjk : j < h.length
  · rw [List.getElem?_append_left hjk] at hj
    exact (hR.2 j e1 hj).kept (oq _ (by show B + j < H.size; rw [hR.1]; omega))
  · rw [List.getElem?_append_right (by omega)] at hj
    have hz := (List.getElem?_eq_some_iff.mp hj).1
    have e2 : j = h.length := by simp at hz; omega
    subst e2
    rw [Nat.sub_self] at hj
    cases hj
    exact he
theorem rp_lt {k : Nat} {e : AE} (hR : Rp B b D dA h H) (hk : h[k]? = some e) : B + k < H.size := by
  have hl := (List.getElem?_eq_some_iff.mp hk).1
  rw [hR.1]; omega
theorem s_grow {s : State} {locs : List Loc} (hS : va_S (fun q : Nat => B ≤ q) s.heap H locs) (hz : H1.size = H.size + 1) (oq : ∀ q : Nat, q < H.size → H1[q]? = H[q]?) : va_S (fun q : Nat => B ≤ q) s.heap H1 locs :=
  ⟨Nat.le_trans hS.1 (by omega), fun x h1 h2 => (oq x (Nat.lt_of_lt_of_le h1 hS.1)).trans (hS.2.1 x h1 h2), hS.2.2⟩
end RPL
section LVL
variable {B b n : Nat} {ls : List Value} {lsR : Array Slot}
def lvP (B b : Nat) (ls : List Value) : List (Nat × Value) := (ls.mapIdx (fun k v => (k, v))).filterMap (fun q => if q.2.category = 1 then some (q.1, tv B b q.2) else none)
theorem lvP_mem {k : Nat} {v : Value} (h : ls[k]? = some v) (hc : v.category = 1) : (k, tv B b v) ∈ lvP B b ls := by
  refine List.mem_filterMap.mpr ⟨(k, v), ?_, by simp [hc]⟩
  exact List.mem_of_getElem? (i := k) (by rw [List.getElem?_mapIdx, h]; rfl)
theorem LV.has (hl : LV B b n ls lsR) : lv_has lsR n (lvP B b ls) := by
  obtain ⟨h1, h2, h3, h4⟩ := hl
  refine ⟨h1, h3, fun q hq => ?_⟩
  obtain ⟨⟨k, v⟩, ha, hb⟩ := List.mem_filterMap.mp hq
  obtain ⟨i, hi⟩ := List.getElem?_of_mem ha
  rw [List.getElem?_mapIdx] at hi
  cases hv : ls[i]? with
  | none => rw [hv] at hi; cases hi
  | some w =>
    rw [hv] at hi
    obtain ⟨rfl, rfl⟩ : i = k ∧ w = v := by simpa using hi
    by_cases hc : w.category = 1
    · rw [if_pos hc] at hb
      cases hb
      exact h4 i w hv hc
    · rw [if_neg hc] at hb; cases hb
theorem LV.put {i : Nat} {v : Value} {ls' : Array Slot} (hl : LV B b n ls lsR) (hv : v.category = 1) (hi : i < n) (h : lv_has ls' n ((i, tv B b v) :: (lvP B b ls).filter (fun q => !(q.1 == i) && !(q.1 + 1 == i && q.2.category == 2)))) : LV B b n (ls.set i v) ls' := by
  obtain ⟨g1, g2, g3⟩ := h
  refine ⟨g1, by rw [List.length_set]; exact hl.2.1, g2, fun k w hk hw => ?_⟩
  rw [List.getElem?_set] at hk
  by_cases hik : i = k
  · subst hik
    rw [if_pos rfl, if_pos (by rw [hl.2.1]; exact hi)] at hk
    cases hk
    exact g3 _ List.mem_cons_self
  · rw [if_neg hik] at hk
    refine g3 (k, tv B b w) (List.mem_cons_of_mem _ (List.mem_filter.mpr ⟨lvP_mem hk hw, ?_⟩))
    have a1 : (k == i) = false := by simpa using fun q => hik q.symm
    have a2 : ((tv B b w).category == 2) = false := by rw [tv_cat, hw]; rfl
    simp [a1, a2]
theorem LV.get {i : Nat} {v : Value} (hl : LV B b n ls lsR) (h : ls[i]? = some v) (hv : v.category = 1) : lsR[i]? = some (.val (tv B b v)) := hl.2.2.2 i v h hv
theorem LV.at {i : Nat} {v : Value} (h : ls[i]? = some v) (hv : v.category = 1) : ∃ k : Nat, (lvP B b ls)[k]? = some (i, tv B b v) := List.getElem?_of_mem (lvP_mem h hv)
end LVL
theorem pcT_ok {e : Ent} {o : Int} (h : tgtOk e o = true) : (e.1 : Int) + o = (pcT e.1 o : Int) := by
  have h1 : 0 ≤ (e.1 : Int) + o := by simpa [tgtOk] using h
  unfold pcT
  omega
section HEAP
variable {B b : Nat} {D : va_G} {dA : Nat → ClassId} {p : Program} {l : Launch} {ev : Env} {R : Room} {s : State} {m : MethodId} {args : Array Value} {below : List Frame} {meth : Method} {c : Code} {H : Heap} {locs : List Loc} {cells slots : Nat} {Q : State → Prop} {y : Nat} {sc : Scr} {h : AHp} {pc : Nat} {lsR : Array Slot} {rest : List Value}
theorem Cx.gw (C : Cx B b D dA p R s m args meth c y sc) : ∀ w ∈ GW, w.before args s = true := by
  obtain ⟨-, -, -, -, h, -⟩ := C
  intro w hw
  obtain ⟨h1, h2⟩ := List.mem_filter.mp hw
  exact h w h1 (by simp [okW, h2])
theorem Cx.lay (C : Cx B b D dA p R s m args meth c y sc) {ci : Nat} (h : ci < 6) : ∀ w ∈ u_ws (vAt ci).1 (vAt ci).2.1 (vAt ci).2.2, w ∈ GW := by
  obtain ⟨-, -, -, -, -, -, -, -, -, ⟨-, -, -, k, -⟩, -⟩ := C
  exact k ci h
theorem rp_get (C : Cx B b D dA p R s m args meth c y sc) (hR : Rp B b D dA h H) {i ci k idx : Nat} {fs : List Value} {v : Value} (hi : h[i]? = some (.inr (ci, fs))) (hc : ci < 6) (hk : k < (vAt ci).2.2) (hlink : (Cond.fieldLink (mOwn y) idx ((vAt ci).2.1 k).1 ((vAt ci).2.1 k).2.1 ((vAt ci).2.1 k).2.2.1).before args s = true) (hv : fs[k]? = some v) (hdg : decode (mCode y) pc = .ok (.getfield idx, 3))
    (kk : W p l ev R s m args below meth c H locs cells slots Q (F0 m (pc + 3) lsR (tv B b v :: rest))) : W p l ev R s m args below meth c H locs cells slots Q (F0 m pc lsR (.ref (B + i) :: rest)) := by
  have hP : va_P D vwCl [(B + i, tE B b dA (.inr (ci, fs)))] H := by
    intro z q hz
    have hl := (List.getElem?_eq_some_iff.mp hz).1
    have : z = 0 := by simp at hl; omega
    subst this
    cases hz
    exact hR.2 i _ hi
  obtain ⟨hx, hb, -, hown, -, hK, -⟩ := id C
  exact va_get (C := (vAt ci).1) (T := (vAt ci).2.1) (N := (vAt ci).2.2) hx hb C.gw (C.lay hc) hown hK hP 0 (fs := fs.map (tv B b)) rfl (vw_at hc) k hk hlink (fun _ q => q) (by rw [List.getElem?_map, hv]; rfl) hdg kk
theorem rp_put (C : Cx B b D dA p R s m args meth c y sc) (hS0 : va_S (fun q : Nat => B ≤ q) s.heap H locs) (hR : Rp B b D dA h H) {i ci k idx : Nat} {fs : List Value} {v : Value} (hi : h[i]? = some (.inr (ci, fs))) (hc : ci < 6) (hk : k < (vAt ci).2.2) (hlen : k < fs.length) (hlink : (Cond.fieldLink (mOwn y) idx ((vAt ci).2.1 k).1 ((vAt ci).2.1 k).2.1 ((vAt ci).2.1 k).2.2.1).before args s = true)
    (hfin : ((vAt ci).2.1 k).2.2.2 = true → mIni y = true ∧ ((vAt ci).2.1 k).1 = mOwn y) (hok : vOk (tyAt ci k) v = true) (hdg : decode (mCode y) pc = .ok (.putfield idx, 3))
    (kk : ∀ (H1 : Heap) (locs1 : List Loc), va_S (fun q : Nat => B ≤ q) s.heap H1 locs1 → Rp B b D dA (h.set i (.inr (ci, fs.set k v))) H1 → W p l ev R s m args below meth c H1 locs1 cells slots Q (F0 m (pc + 3) lsR rest)) : W p l ev R s m args below meth c H locs cells slots Q (F0 m pc lsR (tv B b v :: .ref (B + i) :: rest)) := by
  obtain ⟨hx, hb, -, hown, -, hK, hini, -⟩ := id C
  have hts := C.gw
  have hap := va_apart (own := mOwn y) hts (C.lay hc) (tyAt ci) (tyAt_ok hc) (nmAt hc) hK (vw_at hc)
  obtain ⟨r, h1, cell, q1, q2, q3, q4⟩ := hR.2 i _ hi
  have hr : r = ((vAt ci).1, (vAt ci).2.1, (vAt ci).2.2) := Option.some.inj (h1.symm.trans (vw_at hc))
  subst hr
  obtain ⟨hS, hfc, kC, hkC, hkind⟩ := hK.1 ci _ (vw_at hc)
  obtain ⟨cf, kf, fi, f, hif, hsl⟩ := hS k hk
  have hst := (u_facts hfc hkC (u_lays hts (C.lay hc) hk) hif).1
  obtain ⟨hn, hft⟩ := vOk_spec B b hok
  have fin : ∀ H' : Heap, H'[B + i]? = some (cell.setSlot f.slot (tv B b v)) → H'.size = H.size → (∀ q, q ≠ B + i → H'[q]? = H[q]?) → W p l ev R s m args below meth c H' (locs ++ [⟨B + i, f.slot⟩]) cells slots Q (F0 m (pc + 3) lsR rest) := by
    intro H' e1 e2 e3
    rw [hsl] at e1 ⊢
    refine kk H' _ (hS0.put e2 e3 (Nat.le_add_right B i)) (rp_set hR hi ⟨_, vw_at hc, ?_⟩ e2 e3)
    refine t_OB.to (V := updV (vp_V (fs.map (tv B b))) k (tv B b v)) ⟨_, e1, q2, q3, t_set q4 hap hk (tv B b v)⟩ (fun j _ => ?_)
    rw [vp_updV_set (by rw [List.length_map]; exact hlen), ← List.map_set]
  cases hfn : ((vAt ci).2.1 k).2.2.2 with
  | false =>
    have hlay := hts _ (C.lay hc _ (u_in_lay hk))
    unfold u_lay at hlay
    rw [if_neg (by rw [hfn]; decide)] at hlay
    have h6 := u_store hfc hkC hkind hlay hif (tyAt_ok hc k hk) hn hft
    exact W.putK hx hb (f := f) ⟨hown, hlink, ⟨_, _, _, hif⟩, hst⟩ (by rw [q2]; exact h6) q1 q3 (by rw [hsl]; exact k2_hasslot (q4 k hk)) rfl rfl hdg fin
  | true =>
    obtain ⟨hi1, hi2⟩ := hfin hfn
    have hlay := hts _ (C.lay hc _ (u_in_lay hk))
    unfold u_lay at hlay
    rw [if_pos hfn] at hlay
    have hcf : m.cls = cf := by
      obtain ⟨_, _, c', _, _, _, -, -, hf', -, -, -, hown2, -⟩ := Cond.laysFinal_spec hlay
      have e1 : c' = cf := by have := hif.symm.trans hf'; simp at this; exact this.1.symm
      rw [hi2] at hown2
      rw [← e1]; exact Option.some.inj (hown.symm.trans hown2)
    have h6 := u_fits hfc hkC hkind (Or.inr hlay) hif (tyAt_ok hc k hk) hn hft
    exact W.putFinK hx hb hown hlink hif hst hcf (hini hi1) (by rw [q2]; exact h6) q1 q3 (by rw [hsl]; exact k2_hasslot (q4 k hk)) rfl rfl hdg fin
theorem rp_iald (C : Cx B b D dA p R s m args meth c y sc) (hR : Rp B b D dA h H) {i n : Nat} {f : Nat → Int32} {j : Int32} (hi : h[i]? = some (.inl (0, n, .inl f))) (hj : ¬ (j < 0 ∨ n ≤ j.toNatClampNeg)) (hdg : decode (mCode y) pc = .ok (.iaload, 1))
    (kk : W p l ev R s m args below meth c H locs cells slots Q (F0 m (pc + 1) lsR (.int (f j.toNatClampNeg) :: rest))) : W p l ev R s m args below meth c H locs cells slots Q (F0 m pc lsR (.int j :: .ref (B + i) :: rest)) := by
  obtain ⟨hx, hb, -, hown, -, hK, -⟩ := id C
  have hlt : j.toNatClampNeg < n := Nat.not_le.mp fun q => hj (Or.inr q)
  exact W.iald (v := .int (f j.toNatClampNeg)) hx hb (hR.2 i _ hi) ((hK.2 0 _ rfl).1 n (fun j => .int (f j))) (fun q => by cases q) (by show ¬ (j < 0 ∨ (arrV _ _ _).slots.size ≤ _); rw [arrV_size]; exact hj) (by show (arrV _ _ _).slots[_]? = _; rw [arrV_read _ _ hlt]) rfl rfl hdg kk
theorem rp_iast (C : Cx B b D dA p R s m args meth c y sc) (hS : va_S (fun q : Nat => B ≤ q) s.heap H locs) (hR : Rp B b D dA h H) {i n : Nat} {f : Nat → Int32} {j x : Int32} (hi : h[i]? = some (.inl (0, n, .inl f))) (hj : ¬ (j < 0 ∨ n ≤ j.toNatClampNeg)) (hdg : decode (mCode y) pc = .ok (.iastore, 1))
    (kk : ∀ (H1 : Heap) (locs1 : List Loc), va_S (fun q : Nat => B ≤ q) s.heap H1 locs1 → Rp B b D dA (h.set i (.inl (0, n, .inl (upd f j.toNatClampNeg x)))) H1 → W p l ev R s m args below meth c H1 locs1 cells slots Q (F0 m (pc + 1) lsR rest)) : W p l ev R s m args below meth c H locs cells slots Q (F0 m pc lsR (.int x :: .int j :: .ref (B + i) :: rest)) := by
  obtain ⟨hx, hb, -, hown, -, hK, -⟩ := id C
  refine W.iast hx hb (hR.2 i _ hi) ((hK.2 0 _ rfl).1 n (fun j => .int (f j))) (fun q => by cases q) (by show ¬ (j < 0 ∨ (arrV _ _ _).slots.size ≤ _); rw [arrV_size]; exact hj) rfl rfl hdg fun H1 e z oq => ?_
  refine kk H1 _ (hS.put z oq (Nat.le_add_right B i)) (rp_set hR hi ?_ z oq)
  show H1[B + i]? = some (vp_cell _ _)
  rw [e]
  show some ((vp_cell (dA 0) (n, .inl f)).setSlot _ _) = some (vp_cell (dA 0) (n, .inl (upd f j.toNatClampNeg x)))
  rw [vp_cell_i, vp_cell_i, arrV_store]
  congr 2
  funext q
  by_cases hq : q = j.toNatClampNeg
  · subst hq
    simp [updV, upd]
  · simp [updV, upd, hq]
theorem ty_at {k : Nat} (h : ¬ (k = 0 ∨ 4 ≤ k)) : (tysL dA)[k]? = some (dA k, .object (aKind k)) := by
  rcases (show k = 1 ∨ k = 2 ∨ k = 3 by omega) with rfl | rfl | rfl <;> rfl
theorem arf_tv (r : Option Nat) : tv B b (arf r) = va_rf (r.map (B + ·)) := by cases r <;> rfl
theorem rp_aald (C : Cx B b D dA p R s m args meth c y sc) (hR : Rp B b D dA h H) {i n k : Nat} {f : Nat → Option Nat} {j : Int32} (hi : h[i]? = some (.inl (k, n, .inr f))) (hk : ¬ (k = 0 ∨ 4 ≤ k)) (hj : ¬ (j < 0 ∨ n ≤ j.toNatClampNeg)) (hdg : decode (mCode y) pc = .ok (.aaload, 1))
    (kk : W p l ev R s m args below meth c H locs cells slots Q (F0 m (pc + 1) lsR (tv B b (arf (f j.toNatClampNeg)) :: rest))) : W p l ev R s m args below meth c H locs cells slots Q (F0 m pc lsR (.int j :: .ref (B + i) :: rest)) := by
  obtain ⟨hx, hb, -, hown, -, hK, -⟩ := id C
  have hlt : j.toNatClampNeg < n := Nat.not_le.mp fun q => hj (Or.inr q)
  rw [arf_tv] at kk
  exact W.aald (v := va_rf ((f j.toNatClampNeg).map (B + ·))) (ty := .object (aKind k)) hx hb (hR.2 i _ hi) ((hK.2 k _ (ty_at hk)).1 n (fun j => va_rf ((f j).map (B + ·)))) rfl (fun q => by cases q) (by show ¬ (j < 0 ∨ (arrV _ _ _).slots.size ≤ _); rw [arrV_size]; exact hj) (by show (arrV _ _ _).slots[_]? = _; rw [arrV_read _ _ hlt]) rfl rfl hdg kk
theorem kindC_at {k : Nat} (h : ¬ (k = 0 ∨ 4 ≤ k)) : vwCl[kindC k]? = some (aKind k, (vAt (kindC k)).2.1, (vAt (kindC k)).2.2) := by
  rcases (show k = 1 ∨ k = 2 ∨ k = 3 by omega) with rfl | rfl | rfl <;> rfl
theorem rp_aast (C : Cx B b D dA p R s m args meth c y sc) (hS : va_S (fun q : Nat => B ≤ q) s.heap H locs) (hR : Rp B b D dA h H) {i n k v : Nat} {fs : List Value} {f : Nat → Option Nat} {j : Int32} (hi : h[i]? = some (.inl (k, n, .inr f))) (hv : h[v]? = some (.inr (kindC k, fs))) (hk : ¬ (k = 0 ∨ 4 ≤ k)) (hj : ¬ (j < 0 ∨ n ≤ j.toNatClampNeg)) (hdg : decode (mCode y) pc = .ok (.aastore, 1))
    (kk : ∀ (H1 : Heap) (locs1 : List Loc), va_S (fun q : Nat => B ≤ q) s.heap H1 locs1 → Rp B b D dA (h.set i (.inl (k, n, .inr (va_up f j.toNatClampNeg (some v))))) H1 → W p l ev R s m args below meth c H1 locs1 cells slots Q (F0 m (pc + 1) lsR rest)) : W p l ev R s m args below meth c H locs cells slots Q (F0 m pc lsR (.ref (B + v) :: .int j :: .ref (B + i) :: rest)) := by
  obtain ⟨hx, hb, -, hown, -, hK, -⟩ := id C
  have hlt : j.toNatClampNeg < n := Nat.not_le.mp fun q => hj (Or.inr q)
  have h0 : ¬ j < 0 := fun q => hj (Or.inl q)
  obtain ⟨r', hr', cellV, g1, g2, g3, -⟩ := hR.2 v _ hv
  have hcls := (hK.1 (kindC k) _ (kindC_at hk)).2
  obtain ⟨kA, comp, k1, k2, k3, -⟩ := (hK.2 k _ (ty_at hk)).2
  have hcomp : comp = D.1 (kindC k) := Option.some.inj (k3.symm.trans hcls.1)
  subst hcomp
  obtain ⟨kC, hkC, -⟩ := hcls.2
  refine W.aast hx hb (hR.2 i _ hi) (fun q h => by cases h) (fun h => by cases h) k1 k2 rfl hkC ⟨h0, by show _ < (arrV _ _ _).slots.size; rw [arrV_size]; exact hlt⟩ g1 (fun q h => by rw [g3] at h; cases h) (by rw [g2]; exact hkC) (by rw [g2]; exact va_assign hcls) rfl rfl hdg fun H1 e z oq => ?_
  refine kk H1 _ (hS.put z oq (Nat.le_add_right B i)) (rp_set hR hi ?_ z oq)
  show H1[B + i]? = some (vp_cell _ _)
  rw [e]
  show some ((vp_cell (dA k) (n, .inr (.inr (.inr (.inr (fun j => (f j).map (B + ·))))))).setSlot _ _) = some (vp_cell (dA k) (n, .inr (.inr (.inr (.inr (fun q => ((va_up f j.toNatClampNeg (some v)) q).map (B + ·)))))))
  rw [vp_cell_q, vp_cell_q, arrV_store]
  congr 2
  funext q
  by_cases hq : q = j.toNatClampNeg
  · subst hq
    simp [updV, va_up, va_rf]
  · simp [updV, va_up, hq]
theorem rp_new (C : Cx B b D dA p R s m args meth c y sc) (hS : va_S (fun q : Nat => B ≤ q) s.heap H locs) (hR : Rp B b D dA h H) {ci idx : Nat} (hc : ci < 6) (hcl : (Cond.classLink (mOwn y) idx (vAt ci).1).before args s = true) (hinst : (Cond.instantiable (vAt ci).1 (vAt ci).2.2).before args s = true) (hini : (Cond.initialized (vAt ci).1).before args s = true) (hcells : cells + 1 ≤ R.cells) (hslots : slots + (dflt ci).length ≤ R.slots) (hdg : decode (mCode y) pc = .ok (.new idx, 3))
    (kk : ∀ H1 : Heap, va_S (fun q : Nat => B ≤ q) s.heap H1 locs → Rp B b D dA (h ++ [.inr (ci, dflt ci)]) H1 → W p l ev R s m args below meth c H1 locs (cells + 1) (slots + (dflt ci).length) Q (F0 m (pc + 3) lsR (.ref (B + h.length) :: rest))) : W p l ev R s m args below meth c H locs cells slots Q (F0 m pc lsR rest) := by
  obtain ⟨hx, hb, -, hown, -, hK, -⟩ := id C
  have hKn := hK.1 ci _ (vw_at hc)
  obtain ⟨d1, d2⟩ := dflt_ok hc
  rw [d1] at hslots kk
  refine W.newcK hx hb hown hcl hinst hini rfl hdg hcells hslots hKn.2.1 hR.1 fun H1 kC hkC e1 z1 o1 => ?_
  rw [← hR.1] at z1 o1
  exact kk H1 (s_grow hS z1 o1) (rp_push hR ⟨_, vw_at hc, (u_born (tyAt ci) C.gw (C.lay hc) hKn hkC e1 (tyAt_ok hc)).to (fun j hj => d2 B b j hj)⟩ z1 o1)
theorem rp_newa (C : Cx B b D dA p R s m args meth c y sc) (hS : va_S (fun q : Nat => B ≤ q) s.heap H locs) (hR : Rp B b D dA h H) {n : Int32} (harr : (Cond.arrayClass .int).before args s = true) (hn : ¬ (n < 0 ∨ 100000 < n.toNatClampNeg)) (hcells : cells + 1 ≤ R.cells) (hslots : slots + n.toNatClampNeg ≤ R.slots) (hdg : decode (mCode y) pc = .ok (.newarray .int, 2))
    (kk : ∀ H1 : Heap, va_S (fun q : Nat => B ≤ q) s.heap H1 locs → Rp B b D dA (h ++ [.inl (0, n.toNatClampNeg, .inl (fun _ => 0))]) H1 → W p l ev R s m args below meth c H1 locs (cells + 1) (slots + n.toNatClampNeg) Q (F0 m (pc + 2) lsR (.ref (B + h.length) :: rest))) : W p l ev R s m args below meth c H locs cells slots Q (F0 m pc lsR (.int n :: rest)) := by
  obtain ⟨hx, hb, -, hown, -, hK, -⟩ := id C
  refine va_newaK hx hb (atype := .int) harr rfl hdg rfl (fun q => hn (Or.inl q)) rfl ?_ hcells hslots hR.1 fun H1 cA e1 z1 o1 hAr hNm => ?_
  · show n.toNatClampNeg * 4 ≤ 536870912
    have : n.toNatClampNeg ≤ 100000 := Nat.not_lt.mp fun q => hn (Or.inr q)
    omega
  · rw [← hR.1] at z1 o1
    refine kk H1 (s_grow hS z1 o1) (rp_push hR ?_ z1 o1)
    have h2 : s.vm.findClass ("[" ++ (FieldType.int).toString) = some (dA 0) := (hK.2 0 _ rfl).2
    have e0 : cA = dA 0 := Option.some.inj (hNm.symm.trans h2)
    subst e0
    exact e1
theorem rp_newq (C : Cx B b D dA p R s m args meth c y sc) (hS : va_S (fun q : Nat => B ≤ q) s.heap H locs) (hR : Rp B b D dA h H) {n : Int32} {k idx : Nat} (hk : ¬ (k = 0 ∨ 4 ≤ k)) (hcl : (Cond.classLink (mOwn y) idx (aKind k)).before args s = true) (hover : (Cond.arrayOver (.object (aKind k))).before args s = true) (hn : ¬ (n < 0 ∨ 100000 < n.toNatClampNeg)) (hcells : cells + 1 ≤ R.cells) (hslots : slots + n.toNatClampNeg ≤ R.slots) (hdg : decode (mCode y) pc = .ok (.anewarray idx, 3))
    (kk : ∀ H1 : Heap, va_S (fun q : Nat => B ≤ q) s.heap H1 locs → Rp B b D dA (h ++ [.inl (k, n.toNatClampNeg, .inr (fun _ => none))]) H1 → W p l ev R s m args below meth c H1 locs (cells + 1) (slots + n.toNatClampNeg) Q (F0 m (pc + 3) lsR (.ref (B + h.length) :: rest))) : W p l ev R s m args below meth c H locs cells slots Q (F0 m pc lsR (.int n :: rest)) := by
  obtain ⟨hx, hb, -, hown, -, hK, -⟩ := id C
  have hlen : n.toNatClampNeg * 4 ≤ 536870912 := by
    have : n.toNatClampNeg ≤ 100000 := Nat.not_lt.mp fun q => hn (Or.inr q)
    omega
  refine W.anew hx hb hown hcl hover rfl hdg rfl (fun q => hn (Or.inl q)) hlen hcells hslots fun cA kA comp f1 f2 f3 f4 => ?_
  generalize hH1 : H.push ({ cls := cA, slots := Array.replicate n.toNatClampNeg .null, vm := .none } : Cell) = H1
  have z1 : H1.size = H.size + 1 := by rw [← hH1, Array.size_push]
  have e1 : H1[H.size]? = some (arrV cA n.toNatClampNeg (fun _ => .null)) := by rw [← hH1, Array.getElem?_push_size, ← arrV_new]
  have o1 : ∀ q : Nat, q < H.size → H1[q]? = H[q]? := fun q hq => by rw [← hH1, Array.getElem?_push, if_neg (Nat.ne_of_lt hq)]
  obtain ⟨kA', comp', k1, k2, k3, k4⟩ := (hK.2 k _ (ty_at hk)).2
  have e0 : cA = dA k := Option.some.inj (f1.symm.trans k4)
  subst e0
  have hz : H.size = B + h.length := hR.1
  rw [hz] at e1
  show W _ _ _ _ _ _ _ _ _ _ _ _ _ _ _ (F0 m (pc + 3) lsR (.ref H.size :: rest))
  rw [hz]
  exact kk H1 (s_grow hS z1 o1) (rp_push hR e1 z1 o1)
theorem rp_copy (C : Cx B b D dA p R s m args meth c y sc) (hS : va_S (fun q : Nat => B ≤ q) s.heap H locs) (hR : Rp B b D dA h H) (hml : c.maxLocals = lsR.size) {idx : Nat} (hlink : (Cond.methodLink (mOwn y) idx arraycopyName).before args s = true) (hnat : (Cond.native arraycopyName).before args s = true) (hstat : (Cond.static arraycopyName).before args s = true) (hini : (Cond.initialized "java/lang/System").before args s = true)
    {i0 i1 n0 n1 : Nat} {f g : Nat → Int32} (ha0 : h[i0]? = some (.inl (0, n0, .inl f))) (ha1 : h[i1]? = some (.inl (0, n1, .inl g))) {sp dp n : Int32} (h1 : ¬ sp < 0) (h2 : ¬ dp < 0) (h3 : ¬ n < 0) (h4 : sp.toNatClampNeg + n.toNatClampNeg ≤ n0) (h5 : dp.toNatClampNeg + n.toNatClampNeg ≤ n1) (hframes : 1 ≤ R.frames) (hlocals : (rest.map fun v => v.category).sum + 18 ≤ R.locals) (hdg : decode (mCode y) pc = .ok (.invokestatic idx, 3))
    (kk : ∀ (H1 : Heap) (locs1 : List Loc), va_S (fun q : Nat => B ≤ q) s.heap H1 locs1 → Rp B b D dA (h.set i1 (.inl (0, n1, .inl (va_cpy f g sp.toNatClampNeg dp.toNatClampNeg n.toNatClampNeg)))) H1 → W p l ev R s m args below meth c H1 locs1 cells slots Q (F0 m (pc + 3) lsR rest)) : W p l ev R s m args below meth c H locs cells slots Q (F0 m pc lsR (.int n :: .int dp :: .ref (B + i1) :: .int sp :: .ref (B + i0) :: rest)) := by
  obtain ⟨hexec, hb, -, hown, -, hK, -⟩ := id C
  have nn : ∀ z : Int32, ¬ z < 0 → z.toInt = (z.toNatClampNeg : Int) := by
    intro z hz
    have hz0 : (0 : Int) ≤ z.toInt := by
      have := Int32.not_lt.mp hz
      simpa using Int32.le_iff_toInt_le.mp this
    show z.toInt = ((z.toInt.toNat : Nat) : Int)
    omega
  intro T hT X
  have hc0 : H[B + i0]? = some (vp_cell (dA 0) (n0, .inl f)) := hR.2 i0 _ ha0
  have hc1 : H[B + i1]? = some (vp_cell (dA 0) (n1, .inl g)) := hR.2 i1 _ ha1
  obtain ⟨-, k0, hk0, cm0, hkk0⟩ := (hK.2 0 _ rfl).1 n0 (fun j => .int (f j))
  obtain ⟨-, k1, hk1, cm1, hkk1⟩ := (hK.2 0 _ rfl).1 n1 (fun j => .int (g j))
  obtain ⟨vm', X', step⟩ := X.arraycopy hexec hown hlink hnat hstat hini (src := B + i0) (dst := B + i1) (cs := vp_cell (dA 0) (n0, .inl f)) (cd := vp_cell (dA 0) (n1, .inl g)) (srcPos := sp) (destPos := dp) (n := n) (by rw [hT]; exact hc0) (by rw [hT]; exact hc1)
    (fun _ h => by cases h) (fun _ h => by cases h) (fun h => by cases h) (fun h => by cases h) hk0 hk1 hkk0 hkk1 (by simp [refKind]) h1 h2 h3
    (by rw [nn sp h1, nn n h3]; show ¬ _ > ((arrV (dA 0) n0 (fun j => .int (f j))).slots.size : Int); rw [arrV_size]; omega)
    (by rw [nn dp h2, nn n h3]; show ¬ _ > ((arrV (dA 0) n1 (fun j => .int (g j))).slots.size : Int); rw [arrV_size]; omega)
    (fun vm₁ _ i hi => by
      have e : (vp_cell (dA 0) (n0, .inl f)).slots.getD (sp.toNatClampNeg + i) .null = .int (f (sp.toNatClampNeg + i)) := by
        show (arrV (dA 0) n0 (fun j => .int (f j))).slots.getD _ _ = _
        rw [Array.getD_eq_getD_getElem?, arrV_read _ _ (by omega)]
        rfl
      refine ⟨?_, ?_⟩
      · rw [e]; rfl
      · rw [e]
        exact trivial)
    (g := F0 m pc lsR (.int n :: .int dp :: .ref (B + i1) :: .int sp :: .ref (B + i0) :: rest)) rfl (by rw [hml]) (rest := rest) rfl (by rw [hb]; exact hdg) hframes (by show 2 * 0 + _ + _ ≤ _; simp only [nativeFrameWords]; simp; omega)
  have e1 : copied (vp_cell (dA 0) (n0, .inl f)) (vp_cell (dA 0) (n1, .inl g)) sp dp n = vp_cell (dA 0) (n1, .inl (va_cpy f g sp.toNatClampNeg dp.toNatClampNeg n.toNatClampNeg)) := va_copied (fun z => .int z) (dA 0) (dA 0) f g h4
  rw [e1] at X' step
  have hl : B + i1 < H.size := (Array.getElem?_eq_some_iff.mp hc1).1
  have hheap : ((T.setVm vm').setCell (B + i1) (vp_cell (dA 0) (n1, .inl (va_cpy f g sp.toNatClampNeg dp.toNatClampNeg n.toNatClampNeg)))).heap = H.setIfInBounds (B + i1) (vp_cell (dA 0) (n1, .inl (va_cpy f g sp.toNatClampNeg dp.toNatClampNeg n.toNatClampNeg))) := by rw [← hT]; rfl
  have oq : ∀ q : Nat, q ≠ B + i1 → (H.setIfInBounds (B + i1) (vp_cell (dA 0) (n1, .inl (va_cpy f g sp.toNatClampNeg dp.toNatClampNeg n.toNatClampNeg))))[q]? = H[q]? := fun q hq => by simp [Array.getElem?_setIfInBounds, Ne.symm hq]
  obtain ⟨t, a1, b1⟩ := kk _ _ ⟨by simp; exact hS.1, fun q g1 g2 => by
      rw [oq q (fun e => g2 (by rw [e]; exact Nat.le_add_right B i1))]
      exact hS.2.1 q g1 g2, fun q hq => by
      rcases List.mem_append.mp hq with h | h
      · exact hS.2.2 q h
      · obtain ⟨z, -, hz⟩ := List.mem_map.mp h
        rw [← hz]
        exact Nat.le_add_right B i1⟩ (rp_set hR ha1 (show (H.setIfInBounds (B + i1) _)[B + i1]? = some _ by simp [Array.getElem?_setIfInBounds, hl]) (by simp) oq) _ hheap X'
  exact ⟨t, step t a1, b1⟩
end HEAP
end
section
/-! W follows the machine of part 03: every instruction that neither calls nor returns. -/
section STEP
variable {B b : Nat} {D : va_G} {dA : Nat → ClassId} {p : Program} {l : Launch} {ev : Env} {R : Room} {s : State} {m : MethodId} {args : Array Value} {below : List Frame} {meth : Method} {c : Code} {H : Heap} {locs : List Loc} {cells slots : Nat} {Q : State → Prop} {y : Nat} {sc : Scr} {h : AHp} {lsR : Array Slot} {ls stk : List Value}
theorem w0 {g : JFrame} (k : W p l ev R s m args below meth c H locs (cells + (h.length - h.length)) (slots + (szH h - szH h)) Q g) : W p l ev R s m args below meth c H locs cells slots Q g := by
  rw [Nat.sub_self, Nat.sub_self, Nat.add_zero, Nat.add_zero] at k
  exact k
theorem w1 {i : Nat} {e0 e : AE} (hi : h[i]? = some e0) (hz : szE e = szE e0) {g : JFrame} (k : W p l ev R s m args below meth c H locs (cells + ((h.set i e).length - h.length)) (slots + (szH (h.set i e) - szH h)) Q g) : W p l ev R s m args below meth c H locs cells slots Q g := by
  rw [List.length_set, szH_set hi hz, Nat.sub_self, Nat.sub_self, Nat.add_zero, Nat.add_zero] at k
  exact k
theorem w2 {e : AE} {g : JFrame} (k : W p l ev R s m args below meth c H locs (cells + ((h ++ [e]).length - h.length)) (slots + (szH (h ++ [e]) - szH h)) Q g) : W p l ev R s m args below meth c H locs (cells + 1) (slots + szE e) Q g := by
  rw [List.length_append, szH_push, Nat.add_sub_cancel_left, Nat.add_sub_cancel_left] at k
  exact k
theorem cat_map (r : List Value) (h8 : r.length ≤ 8) (hc : r.all (fun v => v.category == 1) = true) : ((r.map (tv B b)).map fun v => v.category).sum ≤ 8 := by
  have key : ∀ r : List Value, r.all (fun v => v.category == 1) = true → ((r.map (tv B b)).map fun v => v.category).sum = r.length := by
    intro r
    induction r with
    | nil => intro _; rfl
    | cons v r ih =>
      intro hr
      simp only [List.all_cons, Bool.and_eq_true, beq_iff_eq] at hr
      simp only [List.map_cons, List.sum_cons, List.length_cons, ih hr.2, tv_cat, hr.1]
      omega
  rw [key r hc]
  exact h8
set_option maxHeartbeats 4000000 in
theorem ex1_snd (C : Cx B b D dA p R s m args meth c y sc) (hS : va_S (fun q : Nat => B ≤ q) s.heap H locs) (hR : Rp B b D dA h H) (hl : LV B b (mMaxL y) ls lsR) {e : Ent} (he : e ∈ kOf y) {q : Cfg} (hx : ex1 sc e ls stk h = some q) (hc : cells + (q.2.2.2.length - h.length) ≤ R.cells) (hs : slots + (szH q.2.2.2 - szH h) ≤ R.slots)
    (kk : ∀ (H1 : Heap) (locs1 : List Loc) (lsR1 : Array Slot), va_S (fun q : Nat => B ≤ q) s.heap H1 locs1 → Rp B b D dA q.2.2.2 H1 → LV B b (mMaxL y) q.2.1 lsR1 → W p l ev R s m args below meth c H1 locs1 (cells + (q.2.2.2.length - h.length)) (slots + (szH q.2.2.2 - szH h)) Q (F0 m q.1 lsR1 (q.2.2.1.map (tv B b)))) : W p l ev R s m args below meth c H locs cells slots Q (F0 m e.1 lsR (stk.map (tv B b))) := by
  obtain ⟨hexec, hb, hml, hown, hws, hK, hini, hfr, hlo, ⟨hy, hK1, hK2, hK3, hK4⟩, hBs, hsc⟩ := id C
  have hok := List.all_eq_true.mp (hK1 y hy) e he
  have hnd := hK2 y hy e he
  unfold eok at hok
  rw [Bool.and_eq_true, decide_eq_true_eq] at hok
  obtain ⟨hd, hau⟩ := hok
  have wd : ∀ w ∈ needs y e, w.before args s = true := fun w hw => hws w (hnd w hw).1 (hnd w hw).2
  obtain ⟨pc, i, r1, r2⟩ := e
  cases i with
  | iconst n =>
    dsimp only [ex1] at hx
    cases hx
    exact lv_iconst hexec hb hd rfl (w0 (kk H locs lsR hS hR hl))
  | bipush n =>
    dsimp only [ex1] at hx
    cases hx
    exact lv_bipush hexec hb hd rfl (w0 (kk H locs lsR hS hR hl))
  | sipush n =>
    dsimp only [ex1] at hx
    cases hx
    exact lv_sipush hexec hb hd rfl (w0 (kk H locs lsR hS hR hl))
  | ldc n =>
    dsimp only [ex1] at hx
    cases hx
    exact lv_ldc hexec hb hown (wd _ List.mem_cons_self) hd (w0 (kk H locs lsR hS hR hl))
  | ldc_w n =>
    dsimp only [ex1] at hx
    cases hx
    exact lv_ldcw hexec hb hown (wd _ List.mem_cons_self) hd (w0 (kk H locs lsR hS hR hl))
  | aconst_null =>
    dsimp only [ex1] at hx
    cases hx
    exact lv_null hexec hb hd (w0 (kk H locs lsR hS hR hl))
  | iload_n k =>
    dsimp only [ex1] at hx
    split at hx
    · rename_i x hv
      cases hx
      exact lv_iload_n hexec hb hd rfl (hl.get hv rfl) (w0 (kk H locs lsR hS hR hl))
    · cases hx
  | iload k =>
    dsimp only [ex1] at hx
    split at hx
    · rename_i x hv
      cases hx
      exact lv_iload hexec hb hd (hl.get hv rfl) (w0 (kk H locs lsR hS hR hl))
    · cases hx
  | aload_n k =>
    dsimp only [ex1] at hx
    split at hx
    · rename_i x hv
      cases hx
      exact lv_aload_n hexec hb hd rfl (hl.get hv rfl) (w0 (kk H locs lsR hS hR hl))
    · rename_i x hv
      cases hx
      exact lv_aload_n hexec hb hd rfl (hl.get hv rfl) (w0 (kk H locs lsR hS hR hl))
    · rename_i hv
      cases hx
      exact lv_aload_nN hexec hb hd rfl (hl.get hv rfl) (w0 (kk H locs lsR hS hR hl))
    · cases hx
  | aload k =>
    dsimp only [ex1] at hx
    split at hx
    · rename_i x hv
      cases hx
      exact lv_aload hexec hb hd (hl.get hv rfl) (w0 (kk H locs lsR hS hR hl))
    · cases hx
  | istore_n k =>
    dsimp only [ex1] at hx
    split at hx
    · rename_i x r
      split at hx
      · rename_i hi
        cases hx
        rw [hl.2.1] at hi
        exact lv_istore_n hexec hb hd rfl hl.has hi rfl (fun ls' h' => w0 (kk H locs ls' hS hR (hl.put rfl hi h')))
      · cases hx
    · cases hx
  | istore k =>
    dsimp only [ex1] at hx
    split at hx
    · rename_i x r
      split at hx
      · rename_i hi
        cases hx
        rw [hl.2.1] at hi
        exact lv_istore hexec hb hd hl.has hi rfl (fun ls' h' => w0 (kk H locs ls' hS hR (hl.put rfl hi h')))
      · cases hx
    · cases hx
  | astore_n k =>
    dsimp only [ex1] at hx
    split at hx
    · rename_i x r
      split at hx
      · rename_i hi
        cases hx
        rw [hl.2.1] at hi
        exact lv_astore_n hexec hb hd rfl hl.has hi rfl (fun ls' h' => w0 (kk H locs ls' hS hR (hl.put (v := .ref x) rfl hi h')))
      · cases hx
    · rename_i r
      split at hx
      · rename_i hi
        cases hx
        rw [hl.2.1] at hi
        exact lv_astore_nN hexec hb hd rfl hl.has hi rfl (fun ls' h' => w0 (kk H locs ls' hS hR (hl.put (v := .null) rfl hi h')))
      · cases hx
    · cases hx
  | astore k =>
    dsimp only [ex1] at hx
    split at hx
    · rename_i x r
      split at hx
      · rename_i hi
        cases hx
        rw [hl.2.1] at hi
        exact lv_astore hexec hb hd hl.has hi rfl (fun ls' h' => w0 (kk H locs ls' hS hR (hl.put (v := .ref x) rfl hi h')))
      · cases hx
    · cases hx
  | iinc k n =>
    dsimp only [ex1] at hx
    split at hx
    · rename_i x hv
      cases hx
      have hi : k < mMaxL y := by rw [← hl.2.1]; exact (List.getElem?_eq_some_iff.mp hv).1
      obtain ⟨j, hj⟩ := LV.at (B := B) (b := b) hv rfl
      exact lv_iinc hexec hb hd hl.has hj rfl hi rfl (fun ls' h' => w0 (kk H locs ls' hS hR (hl.put (v := .int (x + Int32.ofInt n)) rfl hi h')))
    · cases hx
  | iadd =>
    dsimp only [ex1] at hx
    split at hx
    · cases hx
      exact lv_iadd hexec hb hd (w0 (kk H locs lsR hS hR hl))
    · cases hx
  | isub =>
    dsimp only [ex1] at hx
    split at hx
    · cases hx
      exact lv_isub hexec hb hd (w0 (kk H locs lsR hS hR hl))
    · cases hx
  | imul =>
    dsimp only [ex1] at hx
    split at hx
    · cases hx
      exact lv_imul hexec hb hd (w0 (kk H locs lsR hS hR hl))
    · cases hx
  | iand =>
    dsimp only [ex1] at hx
    split at hx
    · cases hx
      exact lv_iand hexec hb hd (w0 (kk H locs lsR hS hR hl))
    · cases hx
  | ior =>
    dsimp only [ex1] at hx
    split at hx
    · cases hx
      exact lv_ior hexec hb hd (w0 (kk H locs lsR hS hR hl))
    · cases hx
  | ixor =>
    dsimp only [ex1] at hx
    split at hx
    · cases hx
      exact lv_ixor hexec hb hd (w0 (kk H locs lsR hS hR hl))
    · cases hx
  | ishl =>
    dsimp only [ex1] at hx
    split at hx
    · cases hx
      exact lv_ishl hexec hb hd (w0 (kk H locs lsR hS hR hl))
    · cases hx
  | ishr =>
    dsimp only [ex1] at hx
    split at hx
    · cases hx
      exact lv_ishr hexec hb hd (w0 (kk H locs lsR hS hR hl))
    · cases hx
  | iushr =>
    dsimp only [ex1] at hx
    split at hx
    · cases hx
      exact lv_iushr hexec hb hd rfl (w0 (kk H locs lsR hS hR hl))
    · cases hx
  | irem =>
    dsimp only [ex1] at hx
    split at hx
    · split at hx
      · cases hx
      · rename_i hne
        cases hx
        exact lv_irem hexec hb hd hne (w0 (kk H locs lsR hS hR hl))
    · cases hx
  | dup =>
    dsimp only [ex1] at hx
    split at hx
    · split at hx
      · rename_i hv
        cases hx
        exact lv_dup hexec hb hd (by rw [tv_cat]; exact hv) (w0 (kk H locs lsR hS hR hl))
      · cases hx
    · cases hx
  | dup2 =>
    dsimp only [ex1] at hx
    split at hx
    · split at hx
      · rename_i hv
        cases hx
        exact lv_dup2_11 hexec hb hd (by rw [tv_cat]; exact hv.1) (by rw [tv_cat]; exact hv.2) (w0 (kk H locs lsR hS hR hl))
      · cases hx
    · cases hx
  | pop =>
    dsimp only [ex1] at hx
    split at hx
    · split at hx
      · rename_i hv
        cases hx
        exact lv_pop hexec hb hd (by rw [tv_cat]; exact hv) (w0 (kk H locs lsR hS hR hl))
      · cases hx
    · cases hx
  | goto o =>
    dsimp only [ex1] at hx
    cases hx
    exact lv_goto hexec hb hd (pcT_ok (e := (pc, .goto o, r1, r2)) hau) (w0 (kk H locs lsR hS hR hl))
  | ifCond cc o =>
    dsimp only [ex1] at hx
    split at hx
    · rename_i xv r
      cases hx
      have k0 := w0 (kk H locs lsR hS hR hl)
      have ht := pcT_ok (e := (pc, .ifCond cc o, r1, r2)) hau
      cases cc with
      | eq => exact lv_if_eq hexec hb hd ht (fun hq => by rw [if_pos (show cB .eq xv 0 = true from decide_eq_true hq)] at k0; exact k0) (fun hq => by rw [if_neg (show ¬ cB .eq xv 0 = true from fun z => hq (of_decide_eq_true z))] at k0; exact k0)
      | ne => exact lv_if_ne hexec hb hd ht (fun hq => by rw [if_pos (show cB .ne xv 0 = true from decide_eq_true hq)] at k0; exact k0) (fun hq => by rw [if_neg (show ¬ cB .ne xv 0 = true from fun z => (of_decide_eq_true z) hq)] at k0; exact k0)
      | lt => exact lv_if_lt hexec hb hd ht (fun hq => by rw [if_pos (show cB .lt xv 0 = true from decide_eq_true hq)] at k0; exact k0) (fun hq => by rw [if_neg (show ¬ cB .lt xv 0 = true from fun z => hq (of_decide_eq_true z))] at k0; exact k0)
      | ge => exact lv_if_ge hexec hb hd ht (fun hq => by rw [if_pos (show cB .ge xv 0 = true from decide_eq_true hq)] at k0; exact k0) (fun hq => by rw [if_neg (show ¬ cB .ge xv 0 = true from fun z => hq (of_decide_eq_true z))] at k0; exact k0)
      | gt => exact lv_if_gt hexec hb hd ht (fun hq => by rw [if_pos (show cB .gt xv 0 = true from decide_eq_true hq)] at k0; exact k0) (fun hq => by rw [if_neg (show ¬ cB .gt xv 0 = true from fun z => hq (of_decide_eq_true z))] at k0; exact k0)
      | le => exact lv_if_le hexec hb hd ht (fun hq => by rw [if_pos (show cB .le xv 0 = true from decide_eq_true hq)] at k0; exact k0) (fun hq => by rw [if_neg (show ¬ cB .le xv 0 = true from fun z => hq (of_decide_eq_true z))] at k0; exact k0)
    · cases hx
  | if_icmp cc o =>
    dsimp only [ex1] at hx
    split at hx
    · rename_i yv xv r
      cases hx
      have k0 := w0 (kk H locs lsR hS hR hl)
      have ht := pcT_ok (e := (pc, .if_icmp cc o, r1, r2)) hau
      cases cc with
      | eq => exact lv_icmp_eq hexec hb hd ht (fun hq => by rw [if_pos (show cB .eq xv yv = true from decide_eq_true hq)] at k0; exact k0) (fun hq => by rw [if_neg (show ¬ cB .eq xv yv = true from fun z => hq (of_decide_eq_true z))] at k0; exact k0)
      | ne => exact lv_icmp_ne hexec hb hd ht (fun hq => by rw [if_pos (show cB .ne xv yv = true from decide_eq_true hq)] at k0; exact k0) (fun hq => by rw [if_neg (show ¬ cB .ne xv yv = true from fun z => (of_decide_eq_true z) hq)] at k0; exact k0)
      | lt => exact lv_icmp_lt hexec hb hd ht (fun hq => by rw [if_pos (show cB .lt xv yv = true from decide_eq_true hq)] at k0; exact k0) (fun hq => by rw [if_neg (show ¬ cB .lt xv yv = true from fun z => hq (of_decide_eq_true z))] at k0; exact k0)
      | ge => exact lv_icmp_ge hexec hb hd ht (fun hq => by rw [if_pos (show cB .ge xv yv = true from decide_eq_true hq)] at k0; exact k0) (fun hq => by rw [if_neg (show ¬ cB .ge xv yv = true from fun z => hq (of_decide_eq_true z))] at k0; exact k0)
      | gt => exact lv_icmp_gt hexec hb hd ht (fun hq => by rw [if_pos (show cB .gt xv yv = true from decide_eq_true hq)] at k0; exact k0) (fun hq => by rw [if_neg (show ¬ cB .gt xv yv = true from fun z => hq (of_decide_eq_true z))] at k0; exact k0)
      | le => exact lv_icmp_le hexec hb hd ht (fun hq => by rw [if_pos (show cB .le xv yv = true from decide_eq_true hq)] at k0; exact k0) (fun hq => by rw [if_neg (show ¬ cB .le xv yv = true from fun z => hq (of_decide_eq_true z))] at k0; exact k0)
    · cases hx
  | ifnull o =>
    dsimp only [ex1] at hx
    split at hx
    · cases hx
      exact lv_ifnull hexec hb hd (w0 (kk H locs lsR hS hR hl))
    · cases hx
      exact lv_ifnullN hexec hb hd (pcT_ok (e := (pc, .ifnull o, r1, r2)) hau) (w0 (kk H locs lsR hS hR hl))
    · cases hx
  | ifnonnull o =>
    dsimp only [ex1] at hx
    split at hx
    · cases hx
      exact lv_ifnonnull hexec hb hd (pcT_ok (e := (pc, .ifnonnull o, r1, r2)) hau) (w0 (kk H locs lsR hS hR hl))
    · cases hx
      exact lv_ifnonnullN hexec hb hd (w0 (kk H locs lsR hS hR hl))
    · cases hx
  | tableswitch d lo hi os =>
    dsimp only [ex1] at hx
    rw [Bool.and_eq_true] at hau
    obtain ⟨ha1, ha2⟩ := hau
    split at hx
    · rename_i xv r
      split at hx
      · rename_i hsw
        cases hx
        have k0 := w0 (kk H locs lsR hS hR hl)
        by_cases hq : xv.toInt < lo ∨ hi < xv.toInt
        · refine lv_tableOut hexec hb hd hq (pcT_ok (e := (pc, .tableswitch d lo hi os, r1, r2)) ha1) ?_
          dsimp only [swT] at k0
          rw [if_pos hq] at k0
          exact k0
        · have hsw2 : (os[(xv.toInt - lo).toNat]?).isSome = true := by
            rcases (Bool.or_eq_true _ _).mp hsw with z | z
            · exact absurd (of_decide_eq_true z) hq
            · exact z
          obtain ⟨o, ho⟩ := Option.isSome_iff_exists.mp hsw2
          have hto : tgtOk (pc, .tableswitch d lo hi os, r1, r2) o = true := List.all_eq_true.mp ha2 o (by
            have := List.mem_of_getElem? (l := os.toList) (i := (xv.toInt - lo).toNat) (by rw [Array.getElem?_toList]; exact ho)
            exact this)
          refine lv_tableIn hexec hb hd (fun z => hq (Or.inl z)) (fun z => hq (Or.inr z)) ho (pcT_ok (e := (pc, .tableswitch d lo hi os, r1, r2)) hto) ?_
          dsimp only [swT] at k0
          rw [if_neg hq, ho] at k0
          exact k0
      · cases hx
    · cases hx
  | lookupswitch d ps =>
    dsimp only [ex1] at hx
    rw [Bool.and_eq_true, Bool.and_eq_true] at hau
    obtain ⟨⟨ha1, ha2⟩, ha3⟩ := hau
    split at hx
    · rename_i xv r
      cases hx
      have hto : tgtOk (pc, .lookupswitch d ps, r1, r2) (Op.lookupswitch.offset ps.toList d xv.toInt) = true := by
        have key : ∀ (l : List (Int × Int)), (∀ q ∈ l, tgtOk (pc, .lookupswitch d ps, r1, r2) q.2 = true) → tgtOk (pc, .lookupswitch d ps, r1, r2) (Op.lookupswitch.offset l d xv.toInt) = true := by
          intro l
          induction l with
          | nil => intro _; exact ha1
          | cons q l ih =>
            intro hq
            obtain ⟨a, o⟩ := q
            rw [Op.lookupswitch.offset_cons]
            split
            · exact hq _ List.mem_cons_self
            · exact ih (fun z hz => hq z (List.mem_cons_of_mem _ hz))
        exact key _ (fun q hq => List.all_eq_true.mp ha2 q hq)
      exact lv_lookup hexec hb hd ha3 rfl (pcT_ok (e := (pc, .lookupswitch d ps, r1, r2)) hto) (w0 (kk H locs lsR hS hR hl))
    · cases hx
  | arraylength =>
    dsimp only [ex1] at hx
    split at hx
    · rename_i a r L xs
      cases hx
      obtain ⟨hX, hbB⟩ := hsc L xs rfl
      exact va_slen hexec hb hX (Nat.lt_of_lt_of_le hbB hBs) (Nat.not_le.mpr hbB) hS hd (w0 (kk H locs lsR hS hR hl))
    · cases hx
  | iaload =>
    dsimp only [ex1] at hx
    split at hx
    · rename_i j a r
      split at hx
      · rename_i n f hv
        split at hx
        · cases hx
        · rename_i hj
          cases hx
          exact rp_iald C hR hv hj hd (w0 (kk H locs lsR hS hR hl))
      · cases hx
    · rename_i j a r
      split at hx
      · rename_i L xs
        split at hx
        · cases hx
        · rename_i hj
          cases hx
          obtain ⟨hX, hbB⟩ := hsc L xs rfl
          exact va_sld hexec hb hX (Nat.lt_of_lt_of_le hbB hBs) (Nat.not_le.mpr hbB) hS hj hd (w0 (kk H locs lsR hS hR hl))
      · cases hx
    · cases hx
  | iastore =>
    dsimp only [ex1] at hx
    split at hx
    · rename_i x j a r
      split at hx
      · rename_i n f hv
        split at hx
        · cases hx
        · rename_i hj
          cases hx
          exact rp_iast C hS hR hv hj hd (fun H1 locs1 hS1 hR1 => w1 hv (by rfl) (kk H1 locs1 lsR hS1 hR1 hl))
      · cases hx
    · cases hx
  | aaload =>
    dsimp only [ex1] at hx
    split at hx
    · rename_i j a r
      split at hx
      · rename_i k n f hv
        split at hx
        · cases hx
        · rename_i hj
          cases hx
          exact rp_aald C hR hv (fun z => hj (by rcases z with z | z; exact Or.inl z; exact Or.inr (Or.inl z))) (fun z => hj (Or.inr (Or.inr z))) hd (w0 (kk H locs lsR hS hR hl))
      · cases hx
    · cases hx
  | aastore =>
    dsimp only [ex1] at hx
    split at hx
    · rename_i v j a r
      split at hx
      · rename_i k n f c0 fs hv hv2
        split at hx
        · cases hx
        · rename_i hj
          have hc0 : c0 = kindC k := Classical.byContradiction fun z => hj (Or.inr (Or.inr (Or.inl z)))
          subst hc0
          cases hx
          exact rp_aast C hS hR hv hv2 (fun z => hj (by rcases z with z | z; exact Or.inl z; exact Or.inr (Or.inl z))) (fun z => hj (Or.inr (Or.inr (Or.inr z)))) hd (fun H1 locs1 hS1 hR1 => w1 hv (by rfl) (kk H1 locs1 lsR hS1 hR1 hl))
      · cases hx
    · cases hx
  | newarray t =>
    have ht : t = .int := of_decide_eq_true hau
    subst ht
    dsimp only [ex1] at hx
    split at hx
    · rename_i n r
      split at hx
      · cases hx
      · rename_i hn
        cases hx
        dsimp only at hc hs
        rw [szH_push, Nat.add_sub_cancel_left] at hs
        rw [List.length_append, Nat.add_sub_cancel_left] at hc
        refine rp_newa C hS hR (wd _ List.mem_cons_self) hn hc hs hd (fun H1 hS1 hR1 => ?_)
        have k0 := kk H1 locs lsR hS1 hR1 hl
        rw [szH_push, Nat.add_sub_cancel_left] at k0
        rw [List.length_append, Nat.add_sub_cancel_left] at k0
        exact k0
    · cases hx
  | anewarray idx =>
    have hk : ¬ (r1 = 0 ∨ 4 ≤ r1) := by
      have h1 : (r1 = 1 ∨ r1 = 2) ∨ r1 = 3 := by simpa using hau
      omega
    dsimp only [ex1] at hx
    split at hx
    · rename_i n r
      split at hx
      · cases hx
      · rename_i hn
        cases hx
        dsimp only at hc hs
        rw [szH_push, Nat.add_sub_cancel_left] at hs
        rw [List.length_append, Nat.add_sub_cancel_left] at hc
        refine rp_newq C hS hR hk (wd _ List.mem_cons_self) (wd _ (List.mem_cons_of_mem _ List.mem_cons_self)) hn hc hs hd (fun H1 hS1 hR1 => ?_)
        have k0 := kk H1 locs lsR hS1 hR1 hl
        rw [szH_push, Nat.add_sub_cancel_left] at k0
        rw [List.length_append, Nat.add_sub_cancel_left] at k0
        exact k0
    · cases hx
  | new idx =>
    have hci : r1 < 6 := of_decide_eq_true hau
    dsimp only [ex1] at hx
    cases hx
    dsimp only at hc hs
    rw [szH_push, Nat.add_sub_cancel_left] at hs
    rw [List.length_append, Nat.add_sub_cancel_left] at hc
    refine rp_new C hS hR hci (wd _ List.mem_cons_self) (wd _ (List.mem_cons_of_mem _ List.mem_cons_self)) (wd _ (List.mem_cons_of_mem _ (List.mem_cons_of_mem _ List.mem_cons_self))) hc hs hd (fun H1 hS1 hR1 => ?_)
    have k0 := kk H1 locs lsR hS1 hR1 hl
    rw [szH_push, Nat.add_sub_cancel_left] at k0
    rw [List.length_append, Nat.add_sub_cancel_left] at k0
    exact k0
  | getfield idx =>
    rw [Bool.and_eq_true, decide_eq_true_eq, decide_eq_true_eq] at hau
    dsimp only [ex1] at hx
    split at hx
    · rename_i a r
      split at hx
      · rename_i c0 fs hv
        split at hx
        · rename_i hc0
          subst hc0
          split at hx
          · rename_i v hf
            cases hx
            exact rp_get C hR hv hau.1 hau.2 (wd _ List.mem_cons_self) hf hd (w0 (kk H locs lsR hS hR hl))
          · cases hx
        · cases hx
      · cases hx
    · cases hx
  | putfield idx =>
    rw [Bool.and_eq_true, Bool.and_eq_true, decide_eq_true_eq, decide_eq_true_eq] at hau
    obtain ⟨⟨ha1, ha2⟩, ha3⟩ := hau
    dsimp only [ex1] at hx
    split at hx
    · rename_i v a r
      split at hx
      · rename_i c0 fs hv
        split at hx
        · rename_i hc0
          obtain ⟨hc1, hc2, hc3⟩ := hc0
          subst hc1
          cases hx
          refine rp_put C hS hR hv ha1 ha2 hc2 (wd _ List.mem_cons_self) (fun hf => ?_) hc3 hd (fun H1 locs1 hS1 hR1 => w1 hv (by simp [szE]) (kk H1 locs1 lsR hS1 hR1 hl))
          dsimp only at hf
          rw [hf] at ha3
          simpa using ha3
        · cases hx
      · cases hx
    · cases hx
  | invokespecial idx =>
    dsimp only [ex1] at hx
    split at hx
    · rename_i hobj
      subst hobj
      rw [if_pos rfl, Bool.and_eq_true, decide_eq_true_eq, decide_eq_true_eq] at hau
      have wd2 : ∀ w ∈ ([.methodLink (mOwn y) idx objectInit, .instanceMethod objectInit, .code objectInit ⟨#[0xb1]⟩ 1 none] : List Cond), w.before args s = true := by
        intro w hw
        refine wd w ?_
        dsimp only [needs]
        rw [if_pos rfl]
        exact hw
      split at hx
      · rename_i a r
        split at hx
        · rename_i hr
          cases hx
          exact W.objInit hexec hb hown (wd2 _ List.mem_cons_self) (wd2 _ (List.mem_cons_of_mem _ List.mem_cons_self)) (wd2 _ (List.mem_cons_of_mem _ (List.mem_cons_of_mem _ List.mem_cons_self))) rfl (by rw [hml]; exact hl.1) rfl hd (Nat.le_trans hau.1 hfr) (by
            have := cat_map (B := B) (b := b) r hr.1 hr.2
            show 2 * 0 + ((r.map (tv B b)).map fun v => v.category).sum + 12 ≤ R.locals
            omega) (w0 (kk H locs lsR hS hR hl))
        · cases hx
      · cases hx
    · cases hx
  | invokestatic idx =>
    dsimp only [ex1] at hx
    split at hx
    · rename_i hobj
      subst hobj
      rw [if_pos rfl, Bool.and_eq_true, decide_eq_true_eq, decide_eq_true_eq] at hau
      have wd2 : ∀ w ∈ ([.methodLink (mOwn y) idx arraycopyName, .native arraycopyName, .static arraycopyName, .initialized "java/lang/System"] : List Cond), w.before args s = true := by
        intro w hw
        refine wd w ?_
        dsimp only [needs]
        rw [if_pos rfl]
        exact hw
      split at hx
      · rename_i n dp a sp a0 r
        split at hx
        · rename_i n0 f n1 g hv0 hv1
          split at hx
          · cases hx
          · rename_i hj
            cases hx
            have hj6 : r.length ≤ 8 ∧ r.all (fun v => v.category == 1) = true := Classical.byContradiction fun z => hj (Or.inr (Or.inr (Or.inr (Or.inr (Or.inr z)))))
            refine rp_copy C hS hR (hml.trans hl.1.symm) (wd2 _ List.mem_cons_self) (wd2 _ (List.mem_cons_of_mem _ List.mem_cons_self)) (wd2 _ (List.mem_cons_of_mem _ (List.mem_cons_of_mem _ List.mem_cons_self))) (wd2 _ (List.mem_cons_of_mem _ (List.mem_cons_of_mem _ (List.mem_cons_of_mem _ List.mem_cons_self)))) hv0 hv1 (fun z => hj (Or.inl z)) (fun z => hj (Or.inr (Or.inl z))) (fun z => hj (Or.inr (Or.inr (Or.inl z)))) (Nat.not_lt.mp fun z => hj (Or.inr (Or.inr (Or.inr (Or.inl z))))) (Nat.not_lt.mp fun z => hj (Or.inr (Or.inr (Or.inr (Or.inr (Or.inl z)))))) (Nat.le_trans hau.1 hfr) ?_ hd (fun H1 locs1 hS1 hR1 => w1 hv1 (by rfl) (kk H1 locs1 lsR hS1 hR1 hl))
            have := cat_map (B := B) (b := b) r hj6.1 hj6.2
            omega
        · cases hx
      · cases hx
    · cases hx
  | _ => exact absurd hx (by simp [ex1])
end STEP
end
section
/-! W follows a whole run: calls by induction on the fuel. -/
def wsF (y : Nat) : List Cond := .code (mName y) (mCode y) (mMaxL y) (mRet y) :: GW
def rmF (y mc ms : Nat) : Room := { frames := mFr y, cells := mc, slots := ms, locals := mLo y }
def PcA (B b : Nat) (D : va_G) (dA : Nat → ClassId) (as : List Value) (h : AHp) : Array Value → State → Prop := va_Pc (as.map (tv B b)) (fun U => Rp B b D dA h U.heap ∧ va_K D vwCl (tysL dA) U ∧ ∀ w ∈ NW, va_Nw w U)
def QcA (B b : Nat) (D : va_G) (dA : Nat → ClassId) (rv : Option Value) (h' : AHp) : Array Value → State → Outcome → State → Prop := fun _ st oc t => (oc = .returned (rv.map (tv B b)) ∧ Rp B b D dA h' t.heap) ∧ va_F (fun q : Nat => B ≤ q) st t
def CallOK (n : Nat) : Prop := ∀ (l : Launch) (B b : Nat) (D : va_G) (dA : Nat → ClassId) (z : Nat) (as : List Value) (h : AHp) (rv : Option Value) (h' : AHp), KOK → z < NM → plainName (mName z).cls = true → as.length ≤ mMaxL z → as.all (fun v => v.category == 1) = true → run n none z 0 (ent0 z as) [] h = some (rv, h') →
  Met l (mName z) (wsF z) (rmF z (h'.length - h.length) (szH h' - szH h)) (PcA B b D dA as h) (QcA B b D dA rv h') (h'.length - h.length) (szH h' - szH h) (fun q : Nat => B ≤ q)
def RetAt (y pc : Nat) (rv : Option Value) : Prop := (rv = none ∧ mRet y = none ∧ decode (mCode y) pc = .ok (.return_, 1)) ∨ (∃ v : Int32, rv = some (.int v) ∧ (mRet y = some .int ∨ (mRet y = some .boolean ∧ (v = 0 ∨ v = 1))) ∧ decode (mCode y) pc = .ok (.ireturn, 1)) ∨ (∃ (a : Nat) (cn : String), rv = some (.ref a) ∧ mRet y = some (.object cn) ∧ decode (mCode y) pc = .ok (.areturn, 1))
theorem nw_car {w : Cond} (h : w ∈ NW) : w ∈ lw_tbl ∧ carW w = true := List.mem_filter.mp h
theorem nw_warm {w : Cond} (hw : carW w = true) {s U : State} (hW : s.WarmedH U.vm) (h : va_Nw w s) : va_Nw w U := by
  unfold carW at hw
  split at hw
  · exact va_Nw.warmM hW h
  · exact va_AO.moved hW.alike h
  · cases hw
theorem nw_same {w : Cond} (hw : carW w = true) {u U : State} (h : u.vm = U.vm) (hZ : va_Nw w u) : va_Nw w U := by
  unfold carW at hw
  split at hw
  · exact va_Nw.same rfl h hZ
  · exact va_AO.moved (by rw [h]; exact Vm.Alike.refl _) hZ
  · cases hw
theorem nw_of {w : Cond} (hw : carW w = true) {A : Array Value} {U : State} (h : w.before A U = true) : va_Nw w U := by
  unfold carW at hw
  split at hw
  · exact va_Nw.of rfl h
  · exact h
  · cases hw
theorem nw_use {w : Cond} (hw : carW w = true) {A : Array Value} {U : State} (h : va_Nw w U) : w.before A U = true := by
  unfold carW at hw
  split at hw
  · exact va_Nw.use rfl h
  · exact h
  · cases hw
theorem ex1_mono {sc : Scr} {e : Ent} {ls stk : List Value} {h : AHp} {q : Cfg} (hx : ex1 sc e ls stk h = some q) : h.length ≤ q.2.2.2.length ∧ szH h ≤ szH q.2.2.2 := by
  have key : q.2.2.2 = h ∨ (∃ i e0 e, h[i]? = some e0 ∧ szE e = szE e0 ∧ q.2.2.2 = h.set i e) ∨ ∃ e, q.2.2.2 = h ++ [e] := by
    obtain ⟨pc, i, r1, r2⟩ := e
    cases i <;> dsimp only [ex1] at hx <;> (repeat' split at hx) <;> first
      | (cases hx; done)
      | (cases hx; exact Or.inl rfl)
      | (cases hx; exact Or.inr (Or.inr ⟨_, rfl⟩))
      | (cases hx; exact Or.inr (Or.inl ⟨_, _, _, by assumption, by simp [szE], rfl⟩))
  rcases key with h1 | ⟨i, e0, e, h1, h2, h3⟩ | ⟨e, h1⟩
  · rw [h1]; exact ⟨Nat.le_refl _, Nat.le_refl _⟩
  · rw [h3, List.length_set, szH_set h1 h2]; exact ⟨Nat.le_refl _, Nat.le_refl _⟩
  · rw [h1, List.length_append, szH_push]; exact ⟨Nat.le_add_right _ _, Nat.le_add_right _ _⟩
theorem run_mono : ∀ (n : Nat) {sc : Scr} {y pc : Nat} {ls stk : List Value} {h : AHp} {rv : Option Value} {hf : AHp}, run n sc y pc ls stk h = some (rv, hf) → h.length ≤ hf.length ∧ szH h ≤ szH hf := by
  intro n
  induction n with
  | zero => intro sc y pc ls stk h rv hf hx; exact absurd hx (by simp [run])
  | succ n ih =>
    intro sc y pc ls stk h rv hf hx
    unfold run at hx
    split at hx
    · cases hx
    · rename_i e he
      split at hx
      · obtain ⟨q, h1, h2⟩ := Option.bind_eq_some_iff.mp hx
        have a := ex1_mono h1
        have c := ih h2
        exact ⟨Nat.le_trans a.1 c.1, Nat.le_trans a.2 c.2⟩
      · obtain ⟨q, h1, h2⟩ := Option.map_eq_some_iff.mp hx
        cases h2
        exact ⟨Nat.le_refl _, Nat.le_refl _⟩
      · obtain ⟨q, h1, h2⟩ := Option.bind_eq_some_iff.mp hx
        obtain ⟨⟨r1, r2⟩, h3, h4⟩ := Option.bind_eq_some_iff.mp h2
        have a := ih h3
        have c := ih h4
        exact ⟨Nat.le_trans a.1 c.1, Nat.le_trans a.2 c.2⟩
theorem lvargs_mem : ∀ (vs : List Value) (i k : Nat) (v : Value), vs.all (fun v => v.category == 1) = true → vs[k]? = some v → (i + k, v) ∈ lv_args i vs := by
  intro vs
  induction vs with
  | nil => intro i k v _ h; simp at h
  | cons w vs ih =>
    intro i k v hc h
    simp only [List.all_cons, Bool.and_eq_true, beq_iff_eq] at hc
    unfold lv_args
    cases k with
    | zero => simp at h; subst h; exact List.mem_cons_self
    | succ k =>
      refine List.mem_cons_of_mem _ ?_
      rw [if_neg (by rw [hc.1]; decide)]
      have := ih (i + 1) k v hc.2 (by simpa using h)
      rwa [show i + (k + 1) = i + 1 + k by omega]
theorem lgsl_len (vs : List Value) (hc : vs.all (fun v => v.category == 1) = true) : (lg_sl vs).length = vs.length := by
  induction vs with
  | nil => rfl
  | cons w vs ih =>
    simp only [List.all_cons, Bool.and_eq_true, beq_iff_eq] at hc
    have := ih hc.2
    unfold lg_sl at this ⊢
    rw [List.flatMap_cons, List.length_append, this, if_neg (by rw [hc.1]; decide)]
    simp only [List.length_cons, List.length_nil]
    omega
theorem all_tv (B b : Nat) (as : List Value) (h : as.all (fun v => v.category == 1) = true) : (as.map (tv B b)).all (fun v => v.category == 1) = true := by
  simp only [List.all_eq_true, List.mem_map, beq_iff_eq] at h ⊢
  rintro v ⟨w, hw, rfl⟩
  rw [tv_cat]; exact h w hw
/-- the locals at a method's entry -/
theorem LV.entry (B b : Nat) {z : Nat} {as : List Value} (h8 : as.length ≤ mMaxL z) (hc : as.all (fun v => v.category == 1) = true) : LV B b (mMaxL z) (ent0 z as) ((lg_sl (as.map (tv B b)) ++ List.replicate (mMaxL z - (lg_sl (as.map (tv B b))).length) Slot.unset).toArray) := by
  have hc2 := all_tv B b as hc
  have hlen := lgsl_len _ hc2
  rw [List.length_map] at hlen
  obtain ⟨h1, h2, h3⟩ := lv_entry (as.map (tv B b)) (n := mMaxL z) (by rw [hlen]; exact h8)
  refine ⟨h1, by unfold ent0; rw [List.length_append, List.length_replicate]; omega, h2, fun k v hk hv => ?_⟩
  unfold ent0 at hk
  by_cases hl : k < as.length
  · rw [List.getElem?_append_left hl] at hk
    have := lvargs_mem (as.map (tv B b)) 0 k (tv B b v) hc2 (by rw [List.getElem?_map, hk]; rfl)
    rw [Nat.zero_add] at this
    exact h3 _ this
  · rw [List.getElem?_append_right (by omega), List.getElem?_replicate] at hk
    split at hk
    · cases hk; cases hv
    · cases hk
section CALL
variable {B b : Nat} {D : va_G} {dA : Nat → ClassId} {p : Program} {l : Launch} {ev : Env} {R : Room} {s : State} {m : MethodId} {args : Array Value} {below : List Frame} {meth : Method} {c : Code} {H : Heap} {locs : List Loc} {cells slots mc ms : Nat} {Q : State → Prop} {y z : Nat} {sc : Scr} {h h' : AHp} {pc : Nat} {lsR : Array Slot} {rest st0 as : List Value} {rv : Option Value} {a : Array Value}
theorem rp_call (hr : va_Run p l ev R s m args below meth c H locs cells slots mc ms (F0 m pc lsR st0) rest (QcA B b D dA rv h' a) (fun q : Nat => B ≤ q)) (hS : va_S (fun q : Nat => B ≤ q) s.heap H locs)
    (kk : ∀ (H1 : Heap) (locs1 : List Loc), va_S (fun q : Nat => B ≤ q) s.heap H1 locs1 → Rp B b D dA h' H1 → W p l ev R s m args below meth c H1 locs1 (cells + mc) (slots + ms) Q (F0 m (pc + 3) lsR ((rv.map (tv B b)).toList ++ rest))) : W p l ev R s m args below meth c H locs cells slots Q (F0 m pc lsR st0) := by
  intro T hT X
  obtain ⟨v, st₀, t, T', L, h0, X', hL, e1, e2, ⟨⟨hv, hp⟩, hz, hk⟩, st⟩ := hr T hT X
  cases hv
  rw [h0] at hz hk
  obtain ⟨t2, a1, b1⟩ := kk T'.heap (locs ++ L) ⟨Nat.le_trans hS.1 (by rw [e1]; exact hz), fun q h1 h2 => by rw [e1, hk q (Nat.lt_of_lt_of_le h1 hS.1) h2]; exact hS.2.1 q h1 h2, fun q hq => by
      rcases List.mem_append.mp hq with h | h
      · exact hS.2.2 q h
      · exact hL q h⟩ (by rw [e1]; exact hp) T' rfl X'
  exact ⟨t2, st t2 a1, b1⟩
theorem pc_blind : FrameBlind (PcA B b D dA as h) := fun a U g mk q => ⟨q.1, q.2.1, va_K.moved (u := U) (U := U.calling g mk a) (Vm.Alike.refl U.vm) q.2.2.1, fun w hw => nw_same (nw_car hw).2 (u := U) (U := U.calling g mk a) rfl (q.2.2.2 w hw)⟩
theorem Cx.nw (C : Cx B b D dA p R s m args meth c y sc) : ∀ w ∈ NW, va_Nw w s := by
  obtain ⟨-, -, -, -, h, -⟩ := C
  intro w hw
  obtain ⟨h1, h2⟩ := nw_car hw
  exact nw_of h2 (h w h1 (by simp [okW, h2]))
theorem pc_holds (C : Cx B b D dA p R s m args meth c y sc) (hR : Rp B b D dA h H) : ∀ U : State, U.heap = H → s.WarmedH U.vm → PcA B b D dA as h (as.map (tv B b)).toArray U := by
  intro U hU hW
  refine ⟨rfl, by rw [hU]; exact hR, ?_, fun w hw => nw_warm (nw_car hw).2 hW (C.nw w hw)⟩
  obtain ⟨-, -, -, -, -, hK, -⟩ := C
  exact va_K.moved hW.alike hK
theorem ws_stay (C : Cx B b D dA p R s m args meth c y sc) (hcd : Cond.code (mName z) (mCode z) (mMaxL z) (mRet z) ∈ lw_tbl) : ∀ w ∈ wsF z, ∀ (a' : Array Value) (U : State), s.WarmedH U.vm → w.before a' U = true := by
  intro w hw a' U hW
  have hg : goodWord w = true ∧ w ∈ lw_tbl := by
    rcases List.mem_cons.mp hw with rfl | h1
    · exact ⟨rfl, hcd⟩
    · exact ⟨(List.mem_filter.mp h1).2, (List.mem_filter.mp h1).1⟩
  obtain ⟨-, -, -, -, hws, -⟩ := C
  exact word_at hW (good_of_word hg.1) (hws w hg.2 (by simp [okW, hg.1]))
end CALL
end
section
theorem zCall_spec {i : Instr} {z : Nat} {stk as rest : List Value} {h : AHp} (hx : zCall i z stk h = some (as, rest)) : mArgs z ≤ stk.length ∧ stk.length ≤ 8 ∧ stk.all (fun v => v.category == 1) = true ∧ ((∃ idx, i = .invokestatic idx ∧ as = (stk.take (mArgs z)).reverse ∧ stk.drop (mArgs z) = rest) ∨ (∃ idx a c fs, i = .invokevirtual idx ∧ stk.drop (mArgs z) = .ref a :: rest ∧ h[a]? = some (.inr (c, fs)) ∧ c = mCi z ∧ as = .ref a :: (stk.take (mArgs z)).reverse) ∨ (∃ idx a, i = .invokespecial idx ∧ stk.drop (mArgs z) = .ref a :: rest ∧ as = .ref a :: (stk.take (mArgs z)).reverse)) := by
  unfold zCall at hx
  split at hx
  · cases hx
  · rename_i h0
    obtain ⟨h1, h2, h3⟩ := Classical.byContradiction h0
    refine ⟨h1, h2, h3, ?_⟩
    split at hx
    · cases hx
      exact Or.inl ⟨_, rfl, rfl, rfl⟩
    · split at hx
      · rename_i a r hr
        split at hx
        · rename_i c fs hv
          split at hx
          · rename_i hc
            cases hx
            exact Or.inr (Or.inl ⟨_, a, c, fs, rfl, hr, hv, hc, rfl⟩)
          · cases hx
        · cases hx
      · cases hx
    · split at hx
      · rename_i a r hr
        cases hx
        exact Or.inr (Or.inr ⟨_, a, rfl, hr, rfl⟩)
      · cases hx
    · cases hx
section CALLS
variable {B b : Nat} {D : va_G} {dA : Nat → ClassId} {p : Program} {l : Launch} {ev : Env} {R : Room} {s : State} {m : MethodId} {args : Array Value} {below : List Frame} {meth : Method} {c : Code} {H : Heap} {locs : List Loc} {cells slots mc ms : Nat} {Q : State → Prop} {y z : Nat} {sc : Scr} {h h' : AHp} {lsR : Array Slot} {stk rest as : List Value} {rv : Option Value} {e : Ent}
theorem callOk_spec (hk : callOk y z = true) : z < NM ∧ mFr z + 1 ≤ mFr y ∧ 8 + (mMaxL z + 11) + mLo z ≤ mLo y ∧ (parseMethodDescriptor (mName z).desc).map (fun d => d.parameters.length) = some (mArgs z) ∧ (mName z).cls ≠ "java/lang/invoke/MethodHandle" ∧ (mName z).cls ≠ "java/lang/invoke/VarHandle" ∧ mArgs z + (if mStat z then 0 else 1) ≤ mMaxL z ∧ plainName (mName z).cls = true := by
  unfold callOk at hk
  simp only [Bool.and_eq_true, decide_eq_true_eq] at hk
  obtain ⟨⟨⟨⟨⟨⟨⟨h1, h2⟩, h3⟩, h4⟩, h5⟩, h6⟩, h7⟩, h8⟩ := hk
  exact ⟨h1, h2, h3, h4, h5, h6, h7, h8⟩
theorem parse_n (h4 : (parseMethodDescriptor (mName z).desc).map (fun d => d.parameters.length) = some (mArgs z)) : ∀ sig, parseMethodDescriptor (mName z).desc = some sig → mArgs z = sig.parameters.length := by
  intro sig hs
  rw [hs] at h4
  exact (Option.some.inj h4).symm
theorem call_S (C : Cx B b D dA p R s m args meth c y sc) (hS : va_S (fun q : Nat => B ≤ q) s.heap H locs) (hR : Rp B b D dA h H) (hsz : lsR.size = mMaxL y) {idx : Nat} {r2 : Int} {pc : Nat} (he : (pc, .invokestatic idx, z, r2) ∈ kOf y) (hz : ¬ z = ACP)
    (hM : Met l (mName z) (wsF z) (rmF z mc ms) (PcA B b D dA as h) (QcA B b D dA rv h') mc ms (fun q : Nat => B ≤ q)) (hal : mArgs z ≤ stk.length) (h8 : stk.length ≤ 8) (hca : stk.all (fun v => v.category == 1) = true) (has : as = (stk.take (mArgs z)).reverse) (hcl : cells + mc ≤ R.cells) (hsl : slots + ms ≤ R.slots)
    (kk : ∀ (H1 : Heap) (locs1 : List Loc), va_S (fun q : Nat => B ≤ q) s.heap H1 locs1 → Rp B b D dA h' H1 → W p l ev R s m args below meth c H1 locs1 (cells + mc) (slots + ms) Q (F0 m (pc + 3) lsR ((rv.toList ++ stk.drop (mArgs z)).map (tv B b)))) : W p l ev R s m args below meth c H locs cells slots Q (F0 m pc lsR (stk.map (tv B b))) := by
  obtain ⟨hexec, hb, hml, hown, hws, hK, hini, hfr, hlo, ⟨hy, hK1, hK2, hK3, hK4⟩, hBs, hsc⟩ := id C
  have hok := List.all_eq_true.mp (hK1 y hy) _ he
  have hnd := hK2 y hy _ he
  unfold eok at hok
  rw [Bool.and_eq_true, decide_eq_true_eq] at hok
  obtain ⟨hd, hau⟩ := hok
  dsimp only at hau
  rw [if_neg hz, Bool.and_eq_true] at hau
  obtain ⟨k1, k2, k3, k4, k5, k6, k7, k8⟩ := callOk_spec hau.1
  have wd : ∀ w ∈ ([linkW y idx (pc, .invokestatic idx, z, r2), .code (mName z) (mCode z) (mMaxL z) (mRet z), .initialized (mName z).cls, .static (mName z)] : List Cond), w ∈ lw_tbl ∧ w.before args s = true := by
    intro w hw
    have hw2 : w ∈ needs y (pc, .invokestatic idx, z, r2) := by
      dsimp only [needs]
      rw [if_neg hz]
      exact hw
    exact ⟨(hnd w hw2).1, hws w (hnd w hw2).1 (hnd w hw2).2⟩
  have w1 := wd _ List.mem_cons_self
  have w2 := wd _ (List.mem_cons_of_mem _ List.mem_cons_self)
  have w3 := wd _ (List.mem_cons_of_mem _ (List.mem_cons_of_mem _ List.mem_cons_self))
  have w4 := wd _ (List.mem_cons_of_mem _ (List.mem_cons_of_mem _ (List.mem_cons_of_mem _ List.mem_cons_self)))
  have hst : stk.map (tv B b) = (as.map (tv B b)).reverse ++ (stk.drop (mArgs z)).map (tv B b) := by
    rw [has, List.map_reverse, List.reverse_reverse, ← List.map_append, List.take_append_drop]
  have hn : (as.map (tv B b)).length = mArgs z := by rw [List.length_map, has, List.length_reverse, List.length_take]; omega
  have hrs := cat_map (B := B) (b := b) (stk.drop (mArgs z)) (by rw [List.length_drop]; omega) (by
    rw [List.all_eq_true] at hca ⊢
    exact fun v hv => hca v (List.mem_of_mem_drop hv))
  have fin : va_Run p l ev R s m args below meth c H locs cells slots mc ms (F0 m pc lsR (stk.map (tv B b))) ((stk.drop (mArgs z)).map (tv B b)) (QcA B b D dA rv h' (as.map (tv B b)).toArray) (fun q : Nat => B ≤ q) := by
    by_cases hr2 : r2 = 1
    · refine va_runSN (Ts := GW) (index := idx) (host := RX4) ⟨hexec, hb, hml, hown, C.gw⟩ hM ⟨⟨⟨rfl, rfl, Nat.le_trans k2 hfr, Nat.le_trans k3 hlo, ws_stay C w2.1, List.mem_cons_self⟩, w2.2, w3.2, ⟨k5, k6⟩, parse_n k4, ?_⟩, w4.2, trivial⟩ ⟨pc_blind, pc_holds C hR⟩ rfl hn hsz hst (lv_room hrs) hd ⟨hcl, hsl⟩
      have := w1.2
      unfold linkW at this
      rwa [if_pos hr2] at this
    · refine va_runS (Ts := GW) (index := idx) ⟨hexec, hb, hml, hown, C.gw⟩ hM ⟨⟨rfl, rfl, Nat.le_trans k2 hfr, Nat.le_trans k3 hlo, ws_stay C w2.1, List.mem_cons_self, w2.2, w3.2, ⟨k5, k6⟩, parse_n k4, ?_⟩, w4.2⟩ ⟨pc_blind, pc_holds C hR⟩ rfl hn hsz hst (lv_room hrs) hd ⟨hcl, hsl⟩
      have := w1.2
      unfold linkW at this
      rwa [if_neg hr2] at this
  refine rp_call fin hS (fun H1 locs1 hS1 hR1 => ?_)
  have := kk H1 locs1 hS1 hR1
  rw [List.map_append] at this
  have e2 : (rv.map (tv B b)).toList = rv.toList.map (tv B b) := by cases rv <;> rfl
  rw [e2]
  exact this
theorem call_V (C : Cx B b D dA p R s m args meth c y sc) (hS : va_S (fun q : Nat => B ≤ q) s.heap H locs) (hR : Rp B b D dA h H) (hsz : lsR.size = mMaxL y) {idx : Nat} {r2 : Int} {pc : Nat} (he : (pc, .invokevirtual idx, z, r2) ∈ kOf y) {a ca : Nat} {fs : List Value} (ha : h[a]? = some (.inr (ca, fs))) (hca0 : ca = mCi z)
    (hM : Met l (mName z) (wsF z) (rmF z mc ms) (PcA B b D dA as h) (QcA B b D dA rv h') mc ms (fun q : Nat => B ≤ q)) (hal : mArgs z ≤ stk.length) (h8 : stk.length ≤ 8) (hca : stk.all (fun v => v.category == 1) = true) (hdr : stk.drop (mArgs z) = .ref a :: rest) (has : as = .ref a :: (stk.take (mArgs z)).reverse) (hcl : cells + mc ≤ R.cells) (hsl : slots + ms ≤ R.slots)
    (kk : ∀ (H1 : Heap) (locs1 : List Loc), va_S (fun q : Nat => B ≤ q) s.heap H1 locs1 → Rp B b D dA h' H1 → W p l ev R s m args below meth c H1 locs1 (cells + mc) (slots + ms) Q (F0 m (pc + 3) lsR ((rv.toList ++ rest).map (tv B b)))) : W p l ev R s m args below meth c H locs cells slots Q (F0 m pc lsR (stk.map (tv B b))) := by
  obtain ⟨hexec, hb, hml, hown, hws, hK, hini, hfr, hlo, ⟨hy, hK1, hK2, hK3, hK4⟩, hBs, hsc⟩ := id C
  have hok := List.all_eq_true.mp (hK1 y hy) _ he
  have hnd := hK2 y hy _ he
  unfold eok at hok
  rw [Bool.and_eq_true, decide_eq_true_eq] at hok
  obtain ⟨hd, hau⟩ := hok
  dsimp only at hau
  simp only [Bool.and_eq_true, decide_eq_true_eq] at hau
  obtain ⟨⟨⟨hau1, hau2⟩, hau3⟩, hau4⟩ := hau
  obtain ⟨k1, k2, k3, k4, k5, k6, k7, k8⟩ := callOk_spec hau1
  have wd : ∀ w ∈ ([linkW y idx (pc, .invokevirtual idx, z, r2), .code (mName z) (mCode z) (mMaxL z) (mRet z), .initialized (mName z).cls, .instanceMethod (mName z), .selects (mName z).cls (mName z) (mName z)] : List Cond), w ∈ lw_tbl ∧ w.before args s = true := by
    intro w hw
    have hw2 : w ∈ needs y (pc, .invokevirtual idx, z, r2) := hw
    exact ⟨(hnd w hw2).1, hws w (hnd w hw2).1 (hnd w hw2).2⟩
  have w1 := wd _ List.mem_cons_self
  have w2 := wd _ (List.mem_cons_of_mem _ List.mem_cons_self)
  have w3 := wd _ (List.mem_cons_of_mem _ (List.mem_cons_of_mem _ List.mem_cons_self))
  have w4 := wd _ (List.mem_cons_of_mem _ (List.mem_cons_of_mem _ (List.mem_cons_of_mem _ List.mem_cons_self)))
  have w5 := wd _ (List.mem_cons_of_mem _ (List.mem_cons_of_mem _ (List.mem_cons_of_mem _ (List.mem_cons_of_mem _ List.mem_cons_self))))
  have hst : stk.map (tv B b) = (((stk.take (mArgs z)).reverse).map (tv B b)).reverse ++ .ref (B + a) :: rest.map (tv B b) := by
    rw [List.map_reverse, List.reverse_reverse]
    show _ = _ ++ (Value.ref a :: rest).map (tv B b)
    rw [← hdr, ← List.map_append, List.take_append_drop]
  have hn : (((stk.take (mArgs z)).reverse).map (tv B b)).length = mArgs z := by rw [List.length_map, List.length_reverse, List.length_take]; omega
  have hrl : rest.length ≤ 8 := by
    have := congrArg List.length hdr
    rw [List.length_drop, List.length_cons] at this
    omega
  have hrs := cat_map (B := B) (b := b) rest hrl (by
    rw [List.all_eq_true] at hca ⊢
    exact fun v hv => hca v (List.mem_of_mem_drop (i := mArgs z) (by rw [hdr]; exact List.mem_cons_of_mem _ hv)))
  have hP : va_P D vwCl [(B + a, tE B b dA (.inr (ca, fs)))] H := by
    intro k q hq
    have hl := (List.getElem?_eq_some_iff.mp hq).1
    have : k = 0 := by simp at hl; omega
    subst this
    cases hq
    exact hR.2 a _ ha
  have hrec : ∃ cell : Cell, H[B + a]? = some cell ∧ cell.vm.isStatics = false ∧ s.vm.findClass (mName z).cls = some cell.cls := by
    rw [← hau3, ← hca0]
    have hc6 : ca < 6 := by rw [hca0]; exact hau2
    exact va_recv hK hP (vw_at hc6) (q0 := 0) (fs := fs.map (tv B b)) rfl
  have hpre := pc_holds (as := as) C hR
  have fin : va_Run p l ev R s m args below meth c H locs cells slots mc ms (F0 m pc lsR (stk.map (tv B b))) (rest.map (tv B b)) (QcA B b D dA rv h' (Value.ref (B + a) :: ((stk.take (mArgs z)).reverse).map (tv B b)).toArray) (fun q : Nat => B ≤ q) := by
    rw [has] at hpre hM
    by_cases hr2 : r2 = 1
    · refine va_runVN (Ts := GW) (index := idx) (host := RX4) (C := (mName z).cls) ⟨hexec, hb, hml, hown, C.gw⟩ hM ⟨⟨⟨rfl, rfl, Nat.le_trans k2 hfr, Nat.le_trans k3 hlo, ws_stay C w2.1, List.mem_cons_self⟩, w2.2, w3.2, ⟨k5, k6⟩, parse_n k4, ?_⟩, w4.2, w5.2⟩ ⟨pc_blind, hrec, hpre⟩ rfl hn hsz hst (lv_room hrs) hd ⟨hcl, hsl⟩
      have := w1.2
      unfold linkW at this
      rwa [if_pos hr2] at this
    · refine va_runV (Ts := GW) (index := idx) (C := (mName z).cls) ⟨hexec, hb, hml, hown, C.gw⟩ hM ⟨⟨rfl, rfl, Nat.le_trans k2 hfr, Nat.le_trans k3 hlo, ws_stay C w2.1, List.mem_cons_self, w2.2, w3.2, ⟨k5, k6⟩, parse_n k4, ?_⟩, w4.2, w5.2⟩ ⟨pc_blind, hrec, hpre⟩ rfl hn hsz hst (lv_room hrs) hd ⟨hcl, hsl⟩
      have := w1.2
      unfold linkW at this
      rwa [if_neg hr2] at this
  refine rp_call fin hS (fun H1 locs1 hS1 hR1 => ?_)
  have := kk H1 locs1 hS1 hR1
  rw [List.map_append] at this
  have e2 : (rv.map (tv B b)).toList = rv.toList.map (tv B b) := by cases rv <;> rfl
  rw [e2]
  exact this
theorem call_I (C : Cx B b D dA p R s m args meth c y sc) (hS : va_S (fun q : Nat => B ≤ q) s.heap H locs) (hR : Rp B b D dA h H) (hsz : lsR.size = mMaxL y) {idx : Nat} {r2 : Int} {pc : Nat} (he : (pc, .invokespecial idx, z, r2) ∈ kOf y) (hz : ¬ z = OBJ) {a : Nat}
    (hM : Met l (mName z) (wsF z) (rmF z mc ms) (PcA B b D dA as h) (QcA B b D dA rv h') mc ms (fun q : Nat => B ≤ q)) (hal : mArgs z ≤ stk.length) (h8 : stk.length ≤ 8) (hca : stk.all (fun v => v.category == 1) = true) (hdr : stk.drop (mArgs z) = .ref a :: rest) (has : as = .ref a :: (stk.take (mArgs z)).reverse) (hcl : cells + mc ≤ R.cells) (hsl : slots + ms ≤ R.slots)
    (kk : ∀ (H1 : Heap) (locs1 : List Loc), va_S (fun q : Nat => B ≤ q) s.heap H1 locs1 → Rp B b D dA h' H1 → W p l ev R s m args below meth c H1 locs1 (cells + mc) (slots + ms) Q (F0 m (pc + 3) lsR ((rv.toList ++ rest).map (tv B b)))) : W p l ev R s m args below meth c H locs cells slots Q (F0 m pc lsR (stk.map (tv B b))) := by
  obtain ⟨hexec, hb, hml, hown, hws, hK, hini, hfr, hlo, ⟨hy, hK1, hK2, hK3, hK4⟩, hBs, hsc⟩ := id C
  have hok := List.all_eq_true.mp (hK1 y hy) _ he
  have hnd := hK2 y hy _ he
  unfold eok at hok
  rw [Bool.and_eq_true, decide_eq_true_eq] at hok
  obtain ⟨hd, hau⟩ := hok
  dsimp only at hau
  rw [if_neg hz] at hau
  simp only [Bool.and_eq_true, decide_eq_true_eq] at hau
  obtain ⟨⟨⟨hau1, hau2⟩, hau3⟩, hau4⟩ := hau
  obtain ⟨k1, k2, k3, k4, k5, k6, k7, k8⟩ := callOk_spec hau1
  have wd : ∀ w ∈ ([linkW y idx (pc, .invokespecial idx, z, r2), .code (mName z) (mCode z) (mMaxL z) (mRet z), .initialized (mName z).cls, .instanceMethod (mName z)] : List Cond), w ∈ lw_tbl ∧ w.before args s = true := by
    intro w hw
    have hw2 : w ∈ needs y (pc, .invokespecial idx, z, r2) := by
      dsimp only [needs]
      rw [if_neg hz]
      exact hw
    exact ⟨(hnd w hw2).1, hws w (hnd w hw2).1 (hnd w hw2).2⟩
  have w1 := wd _ List.mem_cons_self
  have w2 := wd _ (List.mem_cons_of_mem _ List.mem_cons_self)
  have w3 := wd _ (List.mem_cons_of_mem _ (List.mem_cons_of_mem _ List.mem_cons_self))
  have w4 := wd _ (List.mem_cons_of_mem _ (List.mem_cons_of_mem _ (List.mem_cons_of_mem _ List.mem_cons_self)))
  have hst : stk.map (tv B b) = (((stk.take (mArgs z)).reverse).map (tv B b)).reverse ++ .ref (B + a) :: rest.map (tv B b) := by
    rw [List.map_reverse, List.reverse_reverse]
    show _ = _ ++ (Value.ref a :: rest).map (tv B b)
    rw [← hdr, ← List.map_append, List.take_append_drop]
  have hn : (((stk.take (mArgs z)).reverse).map (tv B b)).length = mArgs z := by rw [List.length_map, List.length_reverse, List.length_take]; omega
  have hrl : rest.length ≤ 8 := by
    have := congrArg List.length hdr
    rw [List.length_drop, List.length_cons] at this
    omega
  have hrs := cat_map (B := B) (b := b) rest hrl (by
    rw [List.all_eq_true] at hca ⊢
    exact fun v hv => hca v (List.mem_of_mem_drop (i := mArgs z) (by rw [hdr]; exact List.mem_cons_of_mem _ hv)))
  have hpre := pc_holds (as := as) C hR
  have hcd := ws_stay C w2.1
  have hcm : Cond.code (mName z) (mCode z) (mMaxL z) none ∈ wsF z := by rw [← hau3]; exact List.mem_cons_self
  have w2' := w2.2
  rw [hau3] at w2'
  have fin : va_Run p l ev R s m args below meth c H locs cells slots mc ms (F0 m pc lsR (stk.map (tv B b))) (rest.map (tv B b)) (QcA B b D dA rv h' (Value.ref (B + a) :: ((stk.take (mArgs z)).reverse).map (tv B b)).toArray) (fun q : Nat => B ≤ q) := by
    rw [has] at hpre hM
    by_cases hr2 : r2 = 1
    · refine va_runIN (Ts := GW) (index := idx) (host := RX4) ⟨hexec, hb, hml, hown, C.gw⟩ hM ⟨⟨⟨rfl, rfl, Nat.le_trans k2 hfr, Nat.le_trans k3 hlo, hcd, hcm⟩, w2', w3.2, ⟨k5, k6⟩, parse_n k4, ?_⟩, hau2, w4.2⟩ ⟨pc_blind, hpre⟩ rfl hn hsz hst (lv_room hrs) hd ⟨hcl, hsl⟩
      have := w1.2
      unfold linkW at this
      rwa [if_pos hr2] at this
    · refine va_runI (Ts := GW) (index := idx) ⟨hexec, hb, hml, hown, C.gw⟩ hM ⟨⟨rfl, rfl, Nat.le_trans k2 hfr, Nat.le_trans k3 hlo, hcd, hcm, w2', w3.2, ⟨k5, k6⟩, parse_n k4, ?_⟩, hau2, w4.2⟩ ⟨pc_blind, hpre⟩ rfl hn hsz hst (lv_room hrs) hd ⟨hcl, hsl⟩
      have := w1.2
      unfold linkW at this
      rwa [if_neg hr2] at this
  refine rp_call fin hS (fun H1 locs1 hS1 hR1 => ?_)
  have := kk H1 locs1 hS1 hR1
  rw [List.map_append] at this
  have e2 : (rv.map (tv B b)).toList = rv.toList.map (tv B b) := by cases rv <;> rfl
  rw [e2]
  exact this
end CALLS
end
section
/-! W follows a whole run. -/
section RUN
variable {B b : Nat} {D : va_G} {dA : Nat → ClassId} {p : Program} {l : Launch} {ev : Env} {R : Room} {s : State} {m : MethodId} {args : Array Value} {below : List Frame} {meth : Method} {c : Code} {Q : State → Prop} {y : Nat} {sc : Scr} {rv : Option Value} {hf : AHp} {M1 M2 : Nat}
theorem ret_spec {i : Instr} {stk : List Value} {pc : Nat} {v : Option Value} (hx : zRet y i stk = some v) (hd : ∀ i0, i = i0 → i0 = .ireturn ∨ i0 = .areturn ∨ i0 = .return_ → decode (mCode y) pc = .ok (i0, 1)) : RetAt y pc v ∧ stk = v.toList := by
  unfold zRet at hx
  split at hx
  · split at hx
    · rename_i hr
      cases hx
      exact ⟨Or.inr (Or.inl ⟨_, rfl, hr, hd _ rfl (Or.inl rfl)⟩), rfl⟩
    · cases hx
  · split at hx
    · rename_i hr
      cases hx
      cases hm : mRet y with
      | none => rw [hm] at hr; cases hr
      | some t =>
        rw [hm] at hr
        unfold isObj at hr
        split at hr
        · rename_i cn heq
          cases heq
          exact ⟨Or.inr (Or.inr ⟨_, _, rfl, hm, hd _ rfl (Or.inr (Or.inl rfl))⟩), rfl⟩
        · cases hr
    · cases hx
  · split at hx
    · rename_i hr
      cases hx
      exact ⟨Or.inl ⟨rfl, hr, hd _ rfl (Or.inr (Or.inr rfl))⟩, rfl⟩
    · cases hx
  · cases hx
theorem all_take {n : Nat} {stk : List Value} (h : stk.all (fun v => v.category == 1) = true) : ((stk.take n).reverse).all (fun v => v.category == 1) = true := by
  rw [List.all_eq_true] at h ⊢
  exact fun v hv => h v (List.mem_of_mem_take (List.mem_reverse.mp hv))
theorem walk : ∀ (n : Nat), (∀ k, k < n → CallOK k) → Cx B b D dA p R s m args meth c y sc → M1 ≤ R.cells → M2 ≤ R.slots →
    (∀ (pcr : Nat) (H1 : Heap) (locs1 : List Loc) (lsR1 : Array Slot), RetAt y pcr rv → va_S (fun q : Nat => B ≤ q) s.heap H1 locs1 → Rp B b D dA hf H1 → W p l ev R s m args below meth c H1 locs1 M1 M2 Q (F0 m pcr lsR1 (rv.toList.map (tv B b)))) →
    ∀ (pc : Nat) (ls stk : List Value) (h : AHp) (H : Heap) (locs : List Loc) (cells slots : Nat) (lsR : Array Slot), va_S (fun q : Nat => B ≤ q) s.heap H locs → Rp B b D dA h H → LV B b (mMaxL y) ls lsR → run n sc y pc ls stk h = some (rv, hf) → cells + (hf.length - h.length) = M1 → slots + (szH hf - szH h) = M2 → W p l ev R s m args below meth c H locs cells slots Q (F0 m pc lsR (stk.map (tv B b))) := by
  intro n
  induction n with
  | zero => intro _ _ _ _ _ pc ls stk h H locs cells slots lsR _ _ _ hx; exact absurd hx (by simp [run])
  | succ n ih =>
    intro hcall C h1 h2 hret pc ls stk h H locs cells slots lsR hS hR hl hx e1 e2
    have ih := ih (fun k hk => hcall k (Nat.lt_succ_of_lt hk)) C h1 h2 hret
    have hmono := run_mono _ hx
    unfold run at hx
    split at hx
    · cases hx
    · rename_i e he
      obtain ⟨hmem, rfl⟩ := fet_spec he
      clear he
      have he := hmem
      split at hx
      · obtain ⟨q, g1, g2⟩ := Option.bind_eq_some_iff.mp hx
        have m1 := ex1_mono g1
        have m2 := run_mono _ g2
        refine ex1_snd C hS hR hl he g1 (by omega) (by omega) (fun H1 locs1 lsR1 hS1 hR1 hl1 => ?_)
        exact ih q.1 q.2.1 q.2.2.1 q.2.2.2 H1 locs1 _ _ lsR1 hS1 hR1 hl1 g2 (by omega) (by omega)
      · obtain ⟨v, g1, g2⟩ := Option.map_eq_some_iff.mp hx
        cases g2
        obtain ⟨r1, r2⟩ := ret_spec (pc := e.1) g1 (by
          obtain ⟨-, -, -, -, -, -, -, -, -, ⟨hy, hK1, -⟩, -⟩ := C
          have hok := List.all_eq_true.mp (hK1 y hy) e he
          unfold eok at hok
          rw [Bool.and_eq_true, decide_eq_true_eq] at hok
          intro i0 hi0 hi
          have := hok.1
          obtain ⟨pc, i, r1, r2⟩ := e
          dsimp only at hi0
          subst hi0
          rcases hi with rfl | rfl | rfl <;> exact this)
        rw [Nat.sub_self, Nat.add_zero] at e1 e2
        subst e1
        subst e2
        rw [r2]
        exact hret e.1 H locs lsR r1 hS hR
      · obtain ⟨⟨as, rest⟩, g1, g2⟩ := Option.bind_eq_some_iff.mp hx
        obtain ⟨⟨rv1, h'⟩, g3, g4⟩ := Option.bind_eq_some_iff.mp g2
        dsimp only at g3 g4
        have m1 := run_mono _ g3
        have m2 := run_mono _ g4
        obtain ⟨z1, z2, z3, z4⟩ := zCall_spec g1
        have hKO : KOK := by
          obtain ⟨-, -, -, -, -, -, -, -, -, ⟨-, k⟩, -⟩ := C
          exact k
        have hy : y < NM := by
          obtain ⟨-, -, -, -, -, -, -, -, -, ⟨k, -⟩, -⟩ := C
          exact k
        have hok := List.all_eq_true.mp (hKO.1 y hy) e he
        unfold eok at hok
        rw [Bool.and_eq_true] at hok
        have hau := hok.2
        have fin : ∀ (H1 : Heap) (locs1 : List Loc), va_S (fun q : Nat => B ≤ q) s.heap H1 locs1 → Rp B b D dA h' H1 → W p l ev R s m args below meth c H1 locs1 (cells + (h'.length - h.length)) (slots + (szH h' - szH h)) Q (F0 m (e.1 + 3) lsR ((rv1.toList ++ rest).map (tv B b))) := fun H1 locs1 hS1 hR1 => ih (e.1 + 3) ls (rv1.toList ++ rest) h' H1 locs1 _ _ lsR hS1 hR1 hl g4 (by omega) (by omega)
        have hlt : (stk.take (mArgs e.2.2.1)).reverse.length = mArgs e.2.2.1 := by rw [List.length_reverse, List.length_take]; omega
        rename_i hk0 hk1
        obtain ⟨pc, i, z, r2⟩ := e
        dsimp only at hau hlt g3 z1 z4 hk0 hk1
        rcases z4 with ⟨idx, hi, has, hrest⟩ | ⟨idx, a, ca, fs, hi, hdr, hv, hca, has⟩ | ⟨idx, a, hi, hdr, has⟩
        · subst hi
          have hz : ¬ z = ACP := fun q => hk0 (by simp [kindI, q])
          dsimp only at hau
          rw [if_neg hz, Bool.and_eq_true] at hau
          obtain ⟨k1, k2, k3, k4, k5, k6, k7, k8⟩ := callOk_spec hau.1
          rw [hau.2, if_pos rfl] at k7
          have hM := hcall n (Nat.lt_succ_self n) l B b D dA z as h rv1 h' hKO k1 k8 (by rw [has, hlt]; omega) (by rw [has]; exact all_take z3) g3
          subst hrest
          exact call_S C hS hR hl.1 he hz hM z1 z2 z3 has (by omega) (by omega) fin
        · subst hi
          dsimp only at hau
          simp only [Bool.and_eq_true] at hau
          obtain ⟨k1, k2, k3, k4, k5, k6, k7, k8⟩ := callOk_spec hau.1.1.1
          rw [if_neg (by simpa using hau.2)] at k7
          have hM := hcall n (Nat.lt_succ_self n) l B b D dA z as h rv1 h' hKO k1 k8 (by rw [has, List.length_cons, hlt]; exact k7) (by rw [has, List.all_cons, all_take z3]; rfl) g3
          exact call_V C hS hR hl.1 he hv hca hM z1 z2 z3 hdr has (by omega) (by omega) fin
        · subst hi
          have hz : ¬ z = OBJ := fun q => hk0 (by simp [kindI, q])
          dsimp only at hau
          rw [if_neg hz] at hau
          simp only [Bool.and_eq_true] at hau
          obtain ⟨k1, k2, k3, k4, k5, k6, k7, k8⟩ := callOk_spec hau.1.1.1
          rw [if_neg (by simpa using hau.2)] at k7
          have hM := hcall n (Nat.lt_succ_self n) l B b D dA z as h rv1 h' hKO k1 k8 (by rw [has, List.length_cons, hlt]; exact k7) (by rw [has, List.all_cons, all_take z3]; rfl) g3
          exact call_I C hS hR hl.1 he hz hM z1 z2 z3 hdr has (by omega) (by omega) fin
end RUN
theorem callOK_step (n : Nat) (ih : ∀ k, k < n → CallOK k) : CallOK n := by
  intro l B b D dA z as h rv h' hKO hz hpl hlen hcat hrun
  refine Met.ofW (cc := mCode z) (maxL := mMaxL z) (ret := mRet z) hpl rfl ?_
  intro p e s m args below meth c s₁ Bd hml hv
  obtain ⟨rfl, hR, hK, hNW⟩ := hv
  have hts := atoms_spec (ws := wsF z) Bd.pre
  have hown : s.vm.findClass (mName z).cls = some m.cls := findClass_of_methodNamed Bd.named
  have hlocks := Bd.notSynchronized
  have hr := Bd.returns
  have hws : ∀ w ∈ lw_tbl, okW w = true → w.before (as.map (tv B b)).toArray s = true := by
    intro w hw ho
    unfold okW at ho
    rcases (Bool.or_eq_true _ _).mp ho with h1 | h1
    · exact hts w (List.mem_cons_of_mem _ (List.mem_filter.mpr ⟨hw, h1⟩))
    · exact nw_use h1 (hNW w (List.mem_filter.mpr ⟨hw, h1⟩))
  have hC : Cx B b D dA p (headSpec (wsF z) (rmF z (h'.length - h.length) (szH h' - szH h))).room s m (as.map (tv B b)).toArray meth c z none :=
    ⟨Bd.exec, Bd.bytes, hml, by rw [(hKO.2.2.2 z hz).1]; exact hown, hws, hK, fun q => by rw [(name_of_methodNamed Bd.named Bd.method).1]; exact (hKO.2.2.2 z hz).2 q, Nat.le_refl _, Nat.le_refl _, ⟨hz, hKO⟩, by rw [hR.1]; exact Nat.le_add_right _ _, fun L xs q => by cases q⟩
  rw [lg_entry_eq]
  have hx := Bd.exec
  have hb := Bd.bytes
  refine walk (rv := rv) (hf := h') (M1 := h'.length - h.length) (M2 := szH h' - szH h) n ih hC (Nat.le_refl _) (Nat.le_refl _) ?_ 0 (ent0 z as) [] h s.heap [] 0 0 _ va_S.rf hR (LV.entry B b hlen hcat) hrun (Nat.zero_add _) (Nat.zero_add _)
  intro pcr H1 locs1 lsR1 hrt hS1 hR1
  rcases hrt with ⟨rfl, hm, hd⟩ | ⟨v, rfl, hm, hd⟩ | ⟨a, cn, rfl, hm, hd⟩
  · exact W.vret hx hb (hr.trans hm) (fun t ht hW => ⟨⟨rfl, by rw [ht]; exact hR1⟩, hS1.F ht⟩) hS1.2.2 hd
  · rcases hm with hm | ⟨hm, hv⟩
    · exact W.iret hx hb (hr.trans hm) (fun t ht hW => ⟨⟨rfl, by rw [ht]; exact hR1⟩, hS1.F ht⟩) hS1.2.2 hd
    · exact W.zret hx hb (hr.trans hm) (by rcases hv with rfl | rfl <;> rfl) (fun t ht hW => ⟨⟨rfl, by rw [ht]; exact hR1⟩, hS1.F ht⟩) hS1.2.2 hd
  · exact W.aret (v := .ref (B + a)) hx hb (hr.trans hm) (Or.inl ⟨cn, rfl⟩) (Or.inr ⟨_, rfl⟩) (fun t ht hW => ⟨⟨rfl, by rw [ht]; exact hR1⟩, hS1.F ht⟩) hS1.2.2 hd
theorem callOK_all (n : Nat) : CallOK n := by
  induction n using Nat.strongRecOn with
  | _ n ih => exact callOK_step n ih
end
section
/-! Runs as a predicate: Ev (from a point), Call (a method); one row for each kind of instruction. -/
def Ev (sc : Scr) (y pc : Nat) (ls stk : List Value) (h : AHp) (post : Option Value → AHp → Prop) : Prop := ∃ (n : Nat) (rv : Option Value) (h' : AHp), run n sc y pc ls stk h = some (rv, h') ∧ post rv h'
def Call (z : Nat) (as : List Value) (h : AHp) (post : Option Value → AHp → Prop) : Prop := Ev none z 0 (ent0 z as) [] h post
def oB {α : Type} (o : Option α) (K : α → Prop) : Prop := ∃ v, o = some v ∧ K v
theorem oB_some {α : Type} (v : α) (K : α → Prop) : oB (some v) K = K v := by
  apply propext
  exact ⟨fun ⟨w, h1, h2⟩ => by cases h1; exact h2, fun h => ⟨v, rfl, h⟩⟩
theorem oB_none {α : Type} (K : α → Prop) : oB none K = False := by
  apply propext
  exact ⟨fun ⟨w, h1, h2⟩ => (by cases h1), fun h => False.elim h⟩
theorem oB_bind {α : Type} {n : Nat} {β : Type} (o : Option α) (f : α → Option β) (P : β → Prop) : (∃ r, o.bind f = some r ∧ P r) ↔ oB o (fun v => ∃ r, f v = some r ∧ P r) := by
  constructor
  · rintro ⟨r, h1, h2⟩
    obtain ⟨v, g1, g2⟩ := Option.bind_eq_some_iff.mp h1
    exact ⟨v, g1, r, g2, h2⟩
  · rintro ⟨v, g1, r, g2, h2⟩
    exact ⟨r, Option.bind_eq_some_iff.mpr ⟨v, g1, g2⟩, h2⟩
theorem run_s (n : Nat) (sc : Scr) (y pc : Nat) (ls stk : List Value) (h : AHp) : run (n + 1) sc y pc ls stk h = match fet y pc with
    | none => none
    | some e =>
      match kindI e.2.1 e.2.2.1 with
      | 0 => (ex1 sc e ls stk h).bind (fun q => run n sc y q.1 q.2.1 q.2.2.1 q.2.2.2)
      | 1 => (zRet y e.2.1 stk).map (fun v => (v, h))
      | _ => (zCall e.2.1 e.2.2.1 stk h).bind (fun q => (run n none e.2.2.1 0 (ent0 e.2.2.1 q.1) [] h).bind (fun r => run n sc y (e.1 + 3) ls (r.1.toList ++ q.2) r.2)) := rfl
theorem run_more : ∀ (n k : Nat) {sc : Scr} {y pc : Nat} {ls stk : List Value} {h : AHp} {r : Option Value × AHp}, run n sc y pc ls stk h = some r → run (n + k) sc y pc ls stk h = some r := by
  intro n
  induction n with
  | zero => intro k sc y pc ls stk h r hx; exact absurd hx (by simp [run])
  | succ n ih =>
    intro k sc y pc ls stk h r hx
    rw [Nat.add_right_comm, run_s]
    rw [run_s] at hx
    cases hfe : fet y pc with
    | none => rw [hfe] at hx; cases hx
    | some e =>
      rw [hfe] at hx
      dsimp only at hx ⊢
      cases hk : kindI e.2.1 e.2.2.1 with
      | zero =>
        rw [hk] at hx
        obtain ⟨q, g1, g2⟩ := Option.bind_eq_some_iff.mp hx
        exact Option.bind_eq_some_iff.mpr ⟨q, g1, ih k g2⟩
      | succ k1 =>
        rw [hk] at hx
        cases k1 with
        | zero => exact hx
        | succ k2 =>
          obtain ⟨q, g1, g2⟩ := Option.bind_eq_some_iff.mp hx
          obtain ⟨r1, g3, g4⟩ := Option.bind_eq_some_iff.mp g2
          exact Option.bind_eq_some_iff.mpr ⟨q, g1, Option.bind_eq_some_iff.mpr ⟨r1, ih k g3, ih k g4⟩⟩
theorem run_det {n k : Nat} {sc : Scr} {y pc : Nat} {ls stk : List Value} {h : AHp} {r r' : Option Value × AHp} (h1 : run n sc y pc ls stk h = some r) (h2 : run k sc y pc ls stk h = some r') : r = r' := by
  have a := run_more n k h1
  have c := run_more k n h2
  rw [Nat.add_comm] at c
  exact Option.some.inj (a.symm.trans c)
section EVR
variable {sc : Scr} {y pc : Nat} {ls stk : List Value} {h : AHp} {post post' : Option Value → AHp → Prop} {e : Ent}
theorem Ev.mono (hx : Ev sc y pc ls stk h post) (hp : ∀ rv h', post rv h' → post' rv h') : Ev sc y pc ls stk h post' := by
  obtain ⟨n, rv, h', h1, h2⟩ := hx
  exact ⟨n, rv, h', h1, hp _ _ h2⟩
theorem Call.mono {z : Nat} {as : List Value} (hx : Call z as h post) (hp : ∀ rv h', post rv h' → post' rv h') : Call z as h post' := Ev.mono hx hp
theorem Ev.both (h1 : Ev sc y pc ls stk h post) (h2 : Ev sc y pc ls stk h post') : Ev sc y pc ls stk h (fun rv h' => post rv h' ∧ post' rv h') := by
  obtain ⟨n, rv, h', a1, a2⟩ := h1
  obtain ⟨k, rv2, h2', b1, b2⟩ := h2
  cases run_det a1 b1
  exact ⟨n, rv, h', a1, a2, b2⟩
/-- a call whose end is known -/
theorem call_eq {z : Nat} {as : List Value} {rv : Option Value} {h' : AHp} (hx : Call z as h (fun r g => r = rv ∧ g = h')) : ∀ post, Call z as h post = post rv h' := by
  intro post
  obtain ⟨n, r, g, a1, rfl, rfl⟩ := hx
  apply propext
  constructor
  · rintro ⟨k, r2, g2, b1, b2⟩
    cases run_det a1 b1
    exact b2
  · exact fun hp => ⟨n, r, g, a1, hp⟩
theorem e_x (hf : fet y pc = some e) (hk : kindI e.2.1 e.2.2.1 = 0) : Ev sc y pc ls stk h post = oB (ex1 sc e ls stk h) (fun q => Ev sc y q.1 q.2.1 q.2.2.1 q.2.2.2 post) := by
  apply propext
  constructor
  · rintro ⟨n, rv, h', h1, h2⟩
    cases n with
    | zero => exact absurd h1 (by simp [run])
    | succ n =>
      rw [run_s, hf] at h1
      dsimp only at h1
      rw [hk] at h1
      obtain ⟨q, g1, g2⟩ := Option.bind_eq_some_iff.mp h1
      exact ⟨q, g1, n, rv, h', g2, h2⟩
  · rintro ⟨q, g1, n, rv, h', g2, h2⟩
    refine ⟨n + 1, rv, h', ?_, h2⟩
    rw [run_s, hf]
    dsimp only
    rw [hk]
    exact Option.bind_eq_some_iff.mpr ⟨q, g1, g2⟩
theorem e_1 {q : Cfg} (hf : fet y pc = some e) (hk : kindI e.2.1 e.2.2.1 = 0) (hx : ex1 sc e ls stk h = some q) : Ev sc y pc ls stk h post = Ev sc y q.1 q.2.1 q.2.2.1 q.2.2.2 post := by
  rw [e_x hf hk, hx, oB_some]
theorem e_r {v : Option Value} (hf : fet y pc = some e) (hk : kindI e.2.1 e.2.2.1 = 1) (hx : zRet y e.2.1 stk = some v) : Ev sc y pc ls stk h post = post v h := by
  apply propext
  constructor
  · rintro ⟨n, rv, h', h1, h2⟩
    cases n with
    | zero => exact absurd h1 (by simp [run])
    | succ n =>
      rw [run_s, hf] at h1
      dsimp only at h1
      rw [hk, hx] at h1
      cases h1
      exact h2
  · intro hp
    refine ⟨1, v, h, ?_, hp⟩
    rw [run_s, hf]
    dsimp only
    rw [hk, hx]
    rfl
theorem e_c {as rest : List Value} (hf : fet y pc = some e) (hk : kindI e.2.1 e.2.2.1 = 2) (hx : zCall e.2.1 e.2.2.1 stk h = some (as, rest)) : Ev sc y pc ls stk h post = Call e.2.2.1 as h (fun rv h' => Ev sc y (e.1 + 3) ls (rv.toList ++ rest) h' post) := by
  apply propext
  constructor
  · rintro ⟨n, rv, h', h1, h2⟩
    cases n with
    | zero => exact absurd h1 (by simp [run])
    | succ n =>
      rw [run_s, hf] at h1
      dsimp only at h1
      rw [hk, hx] at h1
      obtain ⟨q, g1, g2⟩ := Option.bind_eq_some_iff.mp h1
      cases g1
      obtain ⟨r, g3, g4⟩ := Option.bind_eq_some_iff.mp g2
      exact ⟨n, r.1, r.2, g3, n, rv, h', g4, h2⟩
  · rintro ⟨n, r1, r2, g3, k, rv, h', g4, h2⟩
    refine ⟨n + k + 1, rv, h', ?_, h2⟩
    rw [run_s, hf]
    dsimp only
    rw [hk, hx]
    refine Option.bind_eq_some_iff.mpr ⟨_, rfl, Option.bind_eq_some_iff.mpr ⟨(r1, r2), run_more n k g3, ?_⟩⟩
    have := run_more k n g4
    rwa [Nat.add_comm] at this
end EVR
def fldv (h : AHp) (a c k : Nat) : Option Value := match h[a]? with
  | some (.inr (c', fs)) => if c' = c then fs[k]? else none
  | _ => none
def stf (h : AHp) (a c k : Nat) (v : Value) : Option AHp := match h[a]? with
  | some (.inr (c', fs)) => if c' = c ∧ k < fs.length ∧ vOk (tyAt c' k) v = true then some (h.set a (.inr (c', fs.set k v))) else none
  | _ => none
def ldi (h : AHp) (a : Nat) (j : Int32) : Option Int32 := match h[a]? with
  | some (.inl (0, n, .inl f)) => if j < 0 ∨ n ≤ j.toNatClampNeg then none else some (f j.toNatClampNeg)
  | _ => none
def sti (h : AHp) (a : Nat) (j x : Int32) : Option AHp := match h[a]? with
  | some (.inl (0, n, .inl f)) => if j < 0 ∨ n ≤ j.toNatClampNeg then none else some (h.set a (.inl (0, n, .inl (upd f j.toNatClampNeg x))))
  | _ => none
def ldq (h : AHp) (a : Nat) (j : Int32) : Option Value := match h[a]? with
  | some (.inl (k, n, .inr f)) => if k = 0 ∨ 4 ≤ k ∨ j < 0 ∨ n ≤ j.toNatClampNeg then none else some (arf (f j.toNatClampNeg))
  | _ => none
def stq (h : AHp) (a : Nat) (j : Int32) (v : Nat) : Option AHp := match h[a]?, h[v]? with
  | some (.inl (k, n, .inr f)), some (.inr (c, _)) => if k = 0 ∨ 4 ≤ k ∨ ¬ c = kindC k ∨ j < 0 ∨ n ≤ j.toNatClampNeg then none else some (h.set a (.inl (k, n, .inr (va_up f j.toNatClampNeg (some v)))))
  | _, _ => none
def acp (h : AHp) (a0 : Nat) (sp : Int32) (a : Nat) (dp n : Int32) : Option AHp := match h[a0]?, h[a]? with
  | some (.inl (0, n0, .inl f)), some (.inl (0, n1, .inl g)) => if sp < 0 ∨ dp < 0 ∨ n < 0 ∨ n0 < sp.toNatClampNeg + n.toNatClampNeg ∨ n1 < dp.toNatClampNeg + n.toNatClampNeg then none else some (h.set a (.inl (0, n1, .inl (va_cpy f g sp.toNatClampNeg dp.toNatClampNeg n.toNatClampNeg))))
  | _, _ => none
def isO (h : AHp) (a c : Nat) : Prop := ∃ fs, h[a]? = some (.inr (c, fs))
section EVK
variable {sc : Scr} {y pc : Nat} {ls stk : List Value} {h : AHp} {post : Option Value → AHp → Prop}
theorem e_get {i r1 : Nat} {r2 : Int} {a : Nat} (hf : fet y pc = some (pc, .getfield i, r1, r2)) : Ev sc y pc ls (.ref a :: stk) h post = oB (fldv h a r1 r2.toNat) (fun v => Ev sc y (pc + 3) ls (v :: stk) h post) := by
  rw [e_x hf rfl]
  dsimp only [ex1, fldv]
  generalize h[a]? = o
  rcases o with _ | (⟨k, n, f⟩ | ⟨c, fs⟩)
  · rw [oB_none, oB_none]
  · (try dsimp only); rw [oB_none, oB_none]
  · dsimp only
    by_cases hc : c = r1
    · rw [if_pos hc, if_pos hc]
      cases hk : fs[r2.toNat]? with
      | none => rw [oB_none, oB_none]
      | some v => rw [oB_some, oB_some]
    · rw [if_neg hc, if_neg hc, oB_none, oB_none]
theorem e_put {i r1 : Nat} {r2 : Int} {a : Nat} {v : Value} (hf : fet y pc = some (pc, .putfield i, r1, r2)) : Ev sc y pc ls (v :: .ref a :: stk) h post = oB (stf h a r1 r2.toNat v) (fun h' => Ev sc y (pc + 3) ls stk h' post) := by
  rw [e_x hf rfl]
  dsimp only [ex1, stf]
  generalize h[a]? = o
  rcases o with _ | (⟨k, n, f⟩ | ⟨c, fs⟩)
  · rw [oB_none, oB_none]
  · (try dsimp only); rw [oB_none, oB_none]
  · dsimp only
    split
    · rw [oB_some, oB_some]
    · rw [oB_none, oB_none]
theorem e_ldi {r1 : Nat} {r2 : Int} {a : Nat} {j : Int32} (hf : fet y pc = some (pc, .iaload, r1, r2)) : Ev sc y pc ls (.int j :: .ref a :: stk) h post = oB (ldi h a j) (fun x => Ev sc y (pc + 1) ls (.int x :: stk) h post) := by
  rw [e_x hf rfl]
  dsimp only [ex1, ldi]
  generalize h[a]? = o
  rcases o with _ | (⟨k, n, f | f⟩ | ⟨c, fs⟩)
  · rw [oB_none, oB_none]
  · cases k with
    | zero =>
      show oB (if j < 0 ∨ n ≤ j.toNatClampNeg then none else some _) _ = oB (if j < 0 ∨ n ≤ j.toNatClampNeg then none else some _) _
      split
      · rw [oB_none, oB_none]
      · rw [oB_some, oB_some]
    | succ k => show oB none _ = oB none _; rw [oB_none, oB_none]
  · cases k <;> (show oB none _ = oB none _; rw [oB_none, oB_none])
  · (try dsimp only); rw [oB_none, oB_none]
theorem e_sti {r1 : Nat} {r2 : Int} {a : Nat} {j x : Int32} (hf : fet y pc = some (pc, .iastore, r1, r2)) : Ev sc y pc ls (.int x :: .int j :: .ref a :: stk) h post = oB (sti h a j x) (fun h' => Ev sc y (pc + 1) ls stk h' post) := by
  rw [e_x hf rfl]
  dsimp only [ex1, sti]
  generalize h[a]? = o
  rcases o with _ | (⟨k, n, f | f⟩ | ⟨c, fs⟩)
  · rw [oB_none, oB_none]
  · cases k with
    | zero =>
      show oB (if j < 0 ∨ n ≤ j.toNatClampNeg then none else some _) _ = oB (if j < 0 ∨ n ≤ j.toNatClampNeg then none else some _) _
      split
      · rw [oB_none, oB_none]
      · rw [oB_some, oB_some]
    | succ k => show oB none _ = oB none _; rw [oB_none, oB_none]
  · cases k <;> (show oB none _ = oB none _; rw [oB_none, oB_none])
  · (try dsimp only); rw [oB_none, oB_none]
theorem e_ldq {r1 : Nat} {r2 : Int} {a : Nat} {j : Int32} (hf : fet y pc = some (pc, .aaload, r1, r2)) : Ev sc y pc ls (.int j :: .ref a :: stk) h post = oB (ldq h a j) (fun v => Ev sc y (pc + 1) ls (v :: stk) h post) := by
  rw [e_x hf rfl]
  dsimp only [ex1, ldq]
  generalize h[a]? = o
  rcases o with _ | (⟨k, n, f | f⟩ | ⟨c, fs⟩)
  · rw [oB_none, oB_none]
  · (try dsimp only); rw [oB_none, oB_none]
  · dsimp only
    split
    · rw [oB_none, oB_none]
    · rw [oB_some, oB_some]
  · (try dsimp only); rw [oB_none, oB_none]
theorem e_stq {r1 : Nat} {r2 : Int} {a v : Nat} {j : Int32} (hf : fet y pc = some (pc, .aastore, r1, r2)) : Ev sc y pc ls (.ref v :: .int j :: .ref a :: stk) h post = oB (stq h a j v) (fun h' => Ev sc y (pc + 1) ls stk h' post) := by
  rw [e_x hf rfl]
  dsimp only [ex1, stq]
  generalize h[a]? = o
  generalize h[v]? = o2
  rcases o with _ | (⟨k, n, f | f⟩ | ⟨c, fs⟩)
  · rw [oB_none, oB_none]
  · rcases o2 with _ | (⟨k2, n2, f2⟩ | ⟨c2, fs2⟩) <;> ((try dsimp only); rw [oB_none, oB_none])
  · rcases o2 with _ | (⟨k2, n2, f2⟩ | ⟨c2, fs2⟩)
    · rw [oB_none, oB_none]
    · (try dsimp only); rw [oB_none, oB_none]
    · dsimp only
      split
      · rw [oB_none, oB_none]
      · rw [oB_some, oB_some]
  · (try dsimp only); rw [oB_none, oB_none]
theorem e_acp {i : Nat} {r2 : Int} {a a0 : Nat} {sp dp n : Int32} (hf : fet y pc = some (pc, .invokestatic i, 1000, r2)) (hs : stk.length ≤ 8 ∧ stk.all (fun v => v.category == 1) = true) : Ev sc y pc ls (.int n :: .int dp :: .ref a :: .int sp :: .ref a0 :: stk) h post = oB (acp h a0 sp a dp n) (fun h' => Ev sc y (pc + 3) ls stk h' post) := by
  rw [e_x hf rfl]
  dsimp only [ex1, acp]
  rw [if_pos (show 1000 = ACP from rfl)]
  have key : ∀ (n0 : Nat) (f : Nat → Int32) (n1 : Nat) (g : Nat → Int32), oB (if sp < 0 ∨ dp < 0 ∨ n < 0 ∨ n0 < sp.toNatClampNeg + n.toNatClampNeg ∨ n1 < dp.toNatClampNeg + n.toNatClampNeg ∨ ¬ (stk.length ≤ 8 ∧ stk.all (fun v => v.category == 1) = true) then none
        else some (pc + 3, ls, stk, h.set a (.inl (0, n1, .inl (va_cpy f g sp.toNatClampNeg dp.toNatClampNeg n.toNatClampNeg))))) (fun q : Cfg => Ev sc y q.1 q.2.1 q.2.2.1 q.2.2.2 post) = oB (if sp < 0 ∨ dp < 0 ∨ n < 0 ∨ n0 < sp.toNatClampNeg + n.toNatClampNeg ∨ n1 < dp.toNatClampNeg + n.toNatClampNeg then none else some (h.set a (.inl (0, n1, .inl (va_cpy f g sp.toNatClampNeg dp.toNatClampNeg n.toNatClampNeg))))) (fun h' => Ev sc y (pc + 3) ls stk h' post) := by
    intro n0 f n1 g
    by_cases hq : sp < 0 ∨ dp < 0 ∨ n < 0 ∨ n0 < sp.toNatClampNeg + n.toNatClampNeg ∨ n1 < dp.toNatClampNeg + n.toNatClampNeg
    · rw [if_pos hq, if_pos, oB_none, oB_none]
      rcases hq with q | q | q | q | q
      · exact Or.inl q
      · exact Or.inr (Or.inl q)
      · exact Or.inr (Or.inr (Or.inl q))
      · exact Or.inr (Or.inr (Or.inr (Or.inl q)))
      · exact Or.inr (Or.inr (Or.inr (Or.inr (Or.inl q))))
    · rw [if_neg hq, if_neg, oB_some, oB_some]
      rintro (q | q | q | q | q | q)
      · exact hq (Or.inl q)
      · exact hq (Or.inr (Or.inl q))
      · exact hq (Or.inr (Or.inr (Or.inl q)))
      · exact hq (Or.inr (Or.inr (Or.inr (Or.inl q))))
      · exact hq (Or.inr (Or.inr (Or.inr (Or.inr q))))
      · exact q hs
  generalize h[a0]? = o
  generalize h[a]? = o2
  rcases o with _ | (⟨k, n, f | f⟩ | ⟨c, fs⟩)
  · show oB none _ = oB none _; rw [oB_none, oB_none]
  · cases k with
    | zero =>
      rcases o2 with _ | (⟨k2, n2, f2 | f2⟩ | ⟨c2, fs2⟩)
      · show oB none _ = oB none _; rw [oB_none, oB_none]
      · cases k2 with
        | zero => exact key _ _ _ _
        | succ k2 => show oB none _ = oB none _; rw [oB_none, oB_none]
      · cases k2 <;> (show oB none _ = oB none _; rw [oB_none, oB_none])
      · show oB none _ = oB none _; rw [oB_none, oB_none]
    | succ k => show oB none _ = oB none _; rw [oB_none, oB_none]
  · cases k <;> (show oB none _ = oB none _; rw [oB_none, oB_none])
  · show oB none _ = oB none _; rw [oB_none, oB_none]
theorem e_if {c : ClassFile.Cond} {o : Int} {r1 : Nat} {r2 : Int} {x : Int32} (hf : fet y pc = some (pc, .ifCond c o, r1, r2)) : Ev sc y pc ls (.int x :: stk) h post = if cB c x 0 = true then Ev sc y (pcT pc o) ls stk h post else Ev sc y (pc + 3) ls stk h post := by
  rw [e_x hf rfl]
  dsimp only [ex1]
  rw [oB_some]
  dsimp only
  split <;> rfl
theorem e_icmp {c : ClassFile.Cond} {o : Int} {r1 : Nat} {r2 : Int} {x z : Int32} (hf : fet y pc = some (pc, .if_icmp c o, r1, r2)) : Ev sc y pc ls (.int z :: .int x :: stk) h post = if cB c x z = true then Ev sc y (pcT pc o) ls stk h post else Ev sc y (pc + 3) ls stk h post := by
  rw [e_x hf rfl]
  dsimp only [ex1]
  rw [oB_some]
  dsimp only
  split <;> rfl
theorem cb_eq (x z : Int32) : (cB .eq x z = true) ↔ (x = z) := by simp [cB]
theorem cb_ne (x z : Int32) : (cB .ne x z = true) ↔ (¬ x = z) := by simp [cB]
theorem cb_lt (x z : Int32) : (cB .lt x z = true) ↔ (x < z) := by simp [cB]
theorem cb_ge (x z : Int32) : (cB .ge x z = true) ↔ (z ≤ x) := by simp [cB]
theorem cb_gt (x z : Int32) : (cB .gt x z = true) ↔ (z < x) := by simp [cB]
theorem cb_le (x z : Int32) : (cB .le x z = true) ↔ (x ≤ z) := by simp [cB]
theorem e_if_eq {o : Int} {r1 : Nat} {r2 : Int} {x : Int32} (t : Nat) (hf : fet y pc = some (pc, .ifCond .eq o, r1, r2)) (ht : pcT pc o = t) : Ev sc y pc ls (.int x :: stk) h post = if x = 0 then Ev sc y t ls stk h post else Ev sc y (pc + 3) ls stk h post := by
  rw [e_if hf, ht]
  by_cases hq : x = 0
  · rw [if_pos hq, if_pos ((cb_eq _ _).mpr hq)]
  · rw [if_neg hq, if_neg (fun w => hq ((cb_eq _ _).mp w))]
theorem e_if_ne {o : Int} {r1 : Nat} {r2 : Int} {x : Int32} (t : Nat) (hf : fet y pc = some (pc, .ifCond .ne o, r1, r2)) (ht : pcT pc o = t) : Ev sc y pc ls (.int x :: stk) h post = if ¬ x = 0 then Ev sc y t ls stk h post else Ev sc y (pc + 3) ls stk h post := by
  rw [e_if hf, ht]
  by_cases hq : ¬ x = 0
  · rw [if_pos hq, if_pos ((cb_ne _ _).mpr hq)]
  · rw [if_neg hq, if_neg (fun w => hq ((cb_ne _ _).mp w))]
theorem e_if_lt {o : Int} {r1 : Nat} {r2 : Int} {x : Int32} (t : Nat) (hf : fet y pc = some (pc, .ifCond .lt o, r1, r2)) (ht : pcT pc o = t) : Ev sc y pc ls (.int x :: stk) h post = if x < 0 then Ev sc y t ls stk h post else Ev sc y (pc + 3) ls stk h post := by
  rw [e_if hf, ht]
  by_cases hq : x < 0
  · rw [if_pos hq, if_pos ((cb_lt _ _).mpr hq)]
  · rw [if_neg hq, if_neg (fun w => hq ((cb_lt _ _).mp w))]
theorem e_if_ge {o : Int} {r1 : Nat} {r2 : Int} {x : Int32} (t : Nat) (hf : fet y pc = some (pc, .ifCond .ge o, r1, r2)) (ht : pcT pc o = t) : Ev sc y pc ls (.int x :: stk) h post = if 0 ≤ x then Ev sc y t ls stk h post else Ev sc y (pc + 3) ls stk h post := by
  rw [e_if hf, ht]
  by_cases hq : 0 ≤ x
  · rw [if_pos hq, if_pos ((cb_ge _ _).mpr hq)]
  · rw [if_neg hq, if_neg (fun w => hq ((cb_ge _ _).mp w))]
theorem e_if_gt {o : Int} {r1 : Nat} {r2 : Int} {x : Int32} (t : Nat) (hf : fet y pc = some (pc, .ifCond .gt o, r1, r2)) (ht : pcT pc o = t) : Ev sc y pc ls (.int x :: stk) h post = if 0 < x then Ev sc y t ls stk h post else Ev sc y (pc + 3) ls stk h post := by
  rw [e_if hf, ht]
  by_cases hq : 0 < x
  · rw [if_pos hq, if_pos ((cb_gt _ _).mpr hq)]
  · rw [if_neg hq, if_neg (fun w => hq ((cb_gt _ _).mp w))]
theorem e_if_le {o : Int} {r1 : Nat} {r2 : Int} {x : Int32} (t : Nat) (hf : fet y pc = some (pc, .ifCond .le o, r1, r2)) (ht : pcT pc o = t) : Ev sc y pc ls (.int x :: stk) h post = if x ≤ 0 then Ev sc y t ls stk h post else Ev sc y (pc + 3) ls stk h post := by
  rw [e_if hf, ht]
  by_cases hq : x ≤ 0
  · rw [if_pos hq, if_pos ((cb_le _ _).mpr hq)]
  · rw [if_neg hq, if_neg (fun w => hq ((cb_le _ _).mp w))]
theorem e_icmp_eq {o : Int} {r1 : Nat} {r2 : Int} {x z : Int32} (t : Nat) (hf : fet y pc = some (pc, .if_icmp .eq o, r1, r2)) (ht : pcT pc o = t) : Ev sc y pc ls (.int z :: .int x :: stk) h post = if x = z then Ev sc y t ls stk h post else Ev sc y (pc + 3) ls stk h post := by
  rw [e_icmp hf, ht]
  by_cases hq : x = z
  · rw [if_pos hq, if_pos ((cb_eq _ _).mpr hq)]
  · rw [if_neg hq, if_neg (fun w => hq ((cb_eq _ _).mp w))]
theorem e_icmp_ne {o : Int} {r1 : Nat} {r2 : Int} {x z : Int32} (t : Nat) (hf : fet y pc = some (pc, .if_icmp .ne o, r1, r2)) (ht : pcT pc o = t) : Ev sc y pc ls (.int z :: .int x :: stk) h post = if ¬ x = z then Ev sc y t ls stk h post else Ev sc y (pc + 3) ls stk h post := by
  rw [e_icmp hf, ht]
  by_cases hq : ¬ x = z
  · rw [if_pos hq, if_pos ((cb_ne _ _).mpr hq)]
  · rw [if_neg hq, if_neg (fun w => hq ((cb_ne _ _).mp w))]
theorem e_icmp_lt {o : Int} {r1 : Nat} {r2 : Int} {x z : Int32} (t : Nat) (hf : fet y pc = some (pc, .if_icmp .lt o, r1, r2)) (ht : pcT pc o = t) : Ev sc y pc ls (.int z :: .int x :: stk) h post = if x < z then Ev sc y t ls stk h post else Ev sc y (pc + 3) ls stk h post := by
  rw [e_icmp hf, ht]
  by_cases hq : x < z
  · rw [if_pos hq, if_pos ((cb_lt _ _).mpr hq)]
  · rw [if_neg hq, if_neg (fun w => hq ((cb_lt _ _).mp w))]
theorem e_icmp_ge {o : Int} {r1 : Nat} {r2 : Int} {x z : Int32} (t : Nat) (hf : fet y pc = some (pc, .if_icmp .ge o, r1, r2)) (ht : pcT pc o = t) : Ev sc y pc ls (.int z :: .int x :: stk) h post = if z ≤ x then Ev sc y t ls stk h post else Ev sc y (pc + 3) ls stk h post := by
  rw [e_icmp hf, ht]
  by_cases hq : z ≤ x
  · rw [if_pos hq, if_pos ((cb_ge _ _).mpr hq)]
  · rw [if_neg hq, if_neg (fun w => hq ((cb_ge _ _).mp w))]
theorem e_icmp_gt {o : Int} {r1 : Nat} {r2 : Int} {x z : Int32} (t : Nat) (hf : fet y pc = some (pc, .if_icmp .gt o, r1, r2)) (ht : pcT pc o = t) : Ev sc y pc ls (.int z :: .int x :: stk) h post = if z < x then Ev sc y t ls stk h post else Ev sc y (pc + 3) ls stk h post := by
  rw [e_icmp hf, ht]
  by_cases hq : z < x
  · rw [if_pos hq, if_pos ((cb_gt _ _).mpr hq)]
  · rw [if_neg hq, if_neg (fun w => hq ((cb_gt _ _).mp w))]
theorem e_icmp_le {o : Int} {r1 : Nat} {r2 : Int} {x z : Int32} (t : Nat) (hf : fet y pc = some (pc, .if_icmp .le o, r1, r2)) (ht : pcT pc o = t) : Ev sc y pc ls (.int z :: .int x :: stk) h post = if x ≤ z then Ev sc y t ls stk h post else Ev sc y (pc + 3) ls stk h post := by
  rw [e_icmp hf, ht]
  by_cases hq : x ≤ z
  · rw [if_pos hq, if_pos ((cb_le _ _).mpr hq)]
  · rw [if_neg hq, if_neg (fun w => hq ((cb_le _ _).mp w))]
theorem e_retb {r1 : Nat} {r2 : Int} {x : Int32} (hf : fet y pc = some (pc, .ireturn, r1, r2)) (hb : mRet y = some .boolean) : Ev sc y pc ls [.int x] h post = ((x = 0 ∨ x = 1) ∧ post (some (.int x)) h) := by
  by_cases hx : x = 0 ∨ x = 1
  · rw [e_r (e := (pc, .ireturn, r1, r2)) (v := some (.int x)) hf rfl (by simp [zRet, hb, hx])]
    simp [hx]
  · simp only [hx, false_and]
    apply propext
    constructor
    · rintro ⟨n, rv, h', h1, h2⟩
      cases n with
      | zero => exact absurd h1 (by simp [run])
      | succ n =>
        rw [run_s, hf] at h1
        simp [kindI, zRet, hb, hx] at h1
    · exact fun q => q.elim
/-- virtual: the receiver's class is the callee's -/
theorem e_v {i z a : Nat} {r2 : Int} {as rest : List Value} (hf : fet y pc = some (pc, .invokevirtual i, z, r2)) (hs : stk = as.reverse ++ .ref a :: rest) (hn : as.length = mArgs z) (h8 : stk.length ≤ 8) (hc : stk.all (fun v => v.category == 1) = true) (ho : isO h a (mCi z)) : Ev sc y pc ls stk h post = Call z (.ref a :: as) h (fun rv h' => Ev sc y (pc + 3) ls (rv.toList ++ rest) h' post) := by
  obtain ⟨fs, hv⟩ := ho
  refine e_c (e := (pc, .invokevirtual i, z, r2)) hf rfl ?_
  have e1 : stk.take (mArgs z) = as.reverse := by rw [hs, List.take_left' (by rw [List.length_reverse, hn])]
  have e2 : stk.drop (mArgs z) = .ref a :: rest := by rw [hs, List.drop_left' (by rw [List.length_reverse, hn])]
  have e3 : mArgs z ≤ stk.length := by rw [hs, List.length_append, List.length_reverse, hn]; omega
  unfold zCall
  rw [if_neg (fun q => q ⟨e3, h8, hc⟩)]
  dsimp only
  rw [e2, e1]
  dsimp only
  rw [hv]
  dsimp only
  rw [if_pos rfl, List.reverse_reverse]
theorem e_i {i z a : Nat} {r2 : Int} {as rest : List Value} (hf : fet y pc = some (pc, .invokespecial i, z, r2)) (hz : kindI (.invokespecial i) z = 2) (hs : stk = as.reverse ++ .ref a :: rest) (hn : as.length = mArgs z) (h8 : stk.length ≤ 8) (hc : stk.all (fun v => v.category == 1) = true) : Ev sc y pc ls stk h post = Call z (.ref a :: as) h (fun rv h' => Ev sc y (pc + 3) ls (rv.toList ++ rest) h' post) := by
  refine e_c (e := (pc, .invokespecial i, z, r2)) hf hz ?_
  have e1 : stk.take (mArgs z) = as.reverse := by rw [hs, List.take_left' (by rw [List.length_reverse, hn])]
  have e2 : stk.drop (mArgs z) = .ref a :: rest := by rw [hs, List.drop_left' (by rw [List.length_reverse, hn])]
  have e3 : mArgs z ≤ stk.length := by rw [hs, List.length_append, List.length_reverse, hn]; omega
  unfold zCall
  rw [if_neg (fun q => q ⟨e3, h8, hc⟩)]
  dsimp only
  rw [e2, e1]
  dsimp only
  rw [List.reverse_reverse]
theorem e_s {i z : Nat} {r2 : Int} {as rest : List Value} (hf : fet y pc = some (pc, .invokestatic i, z, r2)) (hz : kindI (.invokestatic i) z = 2) (hs : stk = as.reverse ++ rest) (hn : as.length = mArgs z) (h8 : stk.length ≤ 8) (hc : stk.all (fun v => v.category == 1) = true) : Ev sc y pc ls stk h post = Call z as h (fun rv h' => Ev sc y (pc + 3) ls (rv.toList ++ rest) h' post) := by
  refine e_c (e := (pc, .invokestatic i, z, r2)) hf hz ?_
  have e1 : stk.take (mArgs z) = as.reverse := by rw [hs, List.take_left' (by rw [List.length_reverse, hn])]
  have e2 : stk.drop (mArgs z) = rest := by rw [hs, List.drop_left' (by rw [List.length_reverse, hn])]
  have e3 : mArgs z ≤ stk.length := by rw [hs, List.length_append, List.length_reverse, hn]; omega
  unfold zCall
  rw [if_neg (fun q => q ⟨e3, h8, hc⟩)]
  dsimp only
  rw [e2, e1, List.reverse_reverse]
end EVK
theorem tsw_d {sc : Scr} {ls stk : List Value} {h : AHp} {pc r1 t : Nat} {r2 d lo hi : Int} {os : Array Int} {x : Int32} (hx : x.toInt < lo ∨ hi < x.toInt) (ht : pcT pc d = t) : ex1 sc (pc, .tableswitch d lo hi os, r1, r2) ls (.int x :: stk) h = some (t, ls, stk, h) := by
  dsimp only [ex1]
  rw [if_pos (by simp [swOk, hx])]
  simp [swT, hx, ht]
theorem lsw_d {sc : Scr} {ls stk : List Value} {h : AHp} {pc r1 t : Nat} {r2 d : Int} {ps : Array (Int × Int)} {x : Int32} (ht : pcT pc (Op.lookupswitch.offset ps.toList d x.toInt) = t) : ex1 sc (pc, .lookupswitch d ps, r1, r2) ls (.int x :: stk) h = some (t, ls, stk, h) := by
  dsimp only [ex1]
  rw [ht]
end
section
-- 0 X0_init ()V
theorem s0_e {a0 : Nat} {h : AHp} {post : Option Value → AHp → Prop} : Call 0 [.ref a0] h post = Ev none 0 0 [.ref a0] [] h post := rfl
theorem s0_0 {sc : Scr} {x : Nat} {stk : List Value} {h : AHp} {post : Option Value → AHp → Prop} : Ev sc 0 0 [.ref x] stk h post = Ev sc 0 1 [.ref x] (.ref x :: stk) h post := e_1 (e := (0, .aload_n 0, 0, 0)) (q := (1, [.ref x], (.ref x :: stk), h)) (by decide +kernel) rfl rfl
theorem s0_1 {sc : Scr} {l0 : Value} {x : Nat}  {h : AHp} {post : Option Value → AHp → Prop} : Ev sc 0 1 [l0] [.ref x] h post = Ev sc 0 4 [l0] [] h post := e_1 (e := (1, .invokespecial 3, 1001, 0)) (q := (4, [l0], [], h)) (by decide +kernel) rfl rfl
theorem s0_4 {sc : Scr} {x : Nat} {stk : List Value} {h : AHp} {post : Option Value → AHp → Prop} : Ev sc 0 4 [.ref x] stk h post = Ev sc 0 5 [.ref x] (.ref x :: stk) h post := e_1 (e := (4, .aload_n 0, 0, 0)) (q := (5, [.ref x], (.ref x :: stk), h)) (by decide +kernel) rfl rfl
theorem s0_5 {sc : Scr} {l0 : Value}  {stk : List Value} {h : AHp} {post : Option Value → AHp → Prop} : Ev sc 0 5 [l0] stk h post = Ev sc 0 7 [l0] (.int (8) :: stk) h post := e_1 (e := (5, .bipush 8, 0, 0)) (q := (7, [l0], (.int (8) :: stk), h)) (by decide +kernel) rfl rfl
theorem s0_7 {sc : Scr} {l0 : Value} {x : Int32} {stk : List Value} {h : AHp} {post : Option Value → AHp → Prop} (hx : ¬ (x < 0 ∨ 100000 < x.toNatClampNeg)) : Ev sc 0 7 [l0] (.int x :: stk) h post = Ev sc 0 9 [l0] (.ref h.length :: stk) (h ++ [.inl (0, x.toNatClampNeg, .inl (fun _ => 0))]) post := e_1 (e := (7, .newarray .int, 0, 0)) (q := (9, [l0], (.ref h.length :: stk), (h ++ [.inl (0, x.toNatClampNeg, .inl (fun _ => 0))]))) (by decide +kernel) rfl (by exact if_neg hx)
theorem s0_9 {sc : Scr} {l0 : Value} {x : Nat} {v : Nat} {stk : List Value} {h : AHp} {post : Option Value → AHp → Prop} : Ev sc 0 9 [l0] (.ref v :: .ref x :: stk) h post = oB (stf h x 0 0 (.ref v)) (fun h2 => Ev sc 0 12 [l0] stk h2 post) := e_put (i := 9) (r1 := 0) (r2 := 0) (by decide +kernel)
theorem s0_12 {sc : Scr} {x : Nat} {stk : List Value} {h : AHp} {post : Option Value → AHp → Prop} : Ev sc 0 12 [.ref x] stk h post = Ev sc 0 13 [.ref x] (.ref x :: stk) h post := e_1 (e := (12, .aload_n 0, 0, 0)) (q := (13, [.ref x], (.ref x :: stk), h)) (by decide +kernel) rfl rfl
theorem s0_13 {sc : Scr} {l0 : Value}  {stk : List Value} {h : AHp} {post : Option Value → AHp → Prop} : Ev sc 0 13 [l0] stk h post = Ev sc 0 15 [l0] (.int (8) :: stk) h post := e_1 (e := (13, .bipush 8, 0, 0)) (q := (15, [l0], (.int (8) :: stk), h)) (by decide +kernel) rfl rfl
theorem s0_15 {sc : Scr} {l0 : Value} {x : Int32} {stk : List Value} {h : AHp} {post : Option Value → AHp → Prop} (hx : ¬ (x < 0 ∨ 100000 < x.toNatClampNeg)) : Ev sc 0 15 [l0] (.int x :: stk) h post = Ev sc 0 17 [l0] (.ref h.length :: stk) (h ++ [.inl (0, x.toNatClampNeg, .inl (fun _ => 0))]) post := e_1 (e := (15, .newarray .int, 0, 0)) (q := (17, [l0], (.ref h.length :: stk), (h ++ [.inl (0, x.toNatClampNeg, .inl (fun _ => 0))]))) (by decide +kernel) rfl (by exact if_neg hx)
theorem s0_17 {sc : Scr} {l0 : Value} {x : Nat} {v : Nat} {stk : List Value} {h : AHp} {post : Option Value → AHp → Prop} : Ev sc 0 17 [l0] (.ref v :: .ref x :: stk) h post = oB (stf h x 0 1 (.ref v)) (fun h2 => Ev sc 0 20 [l0] stk h2 post) := e_put (i := 15) (r1 := 0) (r2 := 1) (by decide +kernel)
theorem s0_20 {sc : Scr} {x : Nat} {stk : List Value} {h : AHp} {post : Option Value → AHp → Prop} : Ev sc 0 20 [.ref x] stk h post = Ev sc 0 21 [.ref x] (.ref x :: stk) h post := e_1 (e := (20, .aload_n 0, 0, 0)) (q := (21, [.ref x], (.ref x :: stk), h)) (by decide +kernel) rfl rfl
theorem s0_21 {sc : Scr} {l0 : Value}  {stk : List Value} {h : AHp} {post : Option Value → AHp → Prop} : Ev sc 0 21 [l0] stk h post = Ev sc 0 23 [l0] (.int (8) :: stk) h post := e_1 (e := (21, .bipush 8, 0, 0)) (q := (23, [l0], (.int (8) :: stk), h)) (by decide +kernel) rfl rfl
theorem s0_23 {sc : Scr} {l0 : Value} {x : Int32} {stk : List Value} {h : AHp} {post : Option Value → AHp → Prop} (hx : ¬ (x < 0 ∨ 100000 < x.toNatClampNeg)) : Ev sc 0 23 [l0] (.int x :: stk) h post = Ev sc 0 25 [l0] (.ref h.length :: stk) (h ++ [.inl (0, x.toNatClampNeg, .inl (fun _ => 0))]) post := e_1 (e := (23, .newarray .int, 0, 0)) (q := (25, [l0], (.ref h.length :: stk), (h ++ [.inl (0, x.toNatClampNeg, .inl (fun _ => 0))]))) (by decide +kernel) rfl (by exact if_neg hx)
theorem s0_25 {sc : Scr} {l0 : Value} {x : Nat} {v : Nat} {stk : List Value} {h : AHp} {post : Option Value → AHp → Prop} : Ev sc 0 25 [l0] (.ref v :: .ref x :: stk) h post = oB (stf h x 0 2 (.ref v)) (fun h2 => Ev sc 0 28 [l0] stk h2 post) := e_put (i := 18) (r1 := 0) (r2 := 2) (by decide +kernel)
theorem s0_28 {sc : Scr} {x : Nat} {stk : List Value} {h : AHp} {post : Option Value → AHp → Prop} : Ev sc 0 28 [.ref x] stk h post = Ev sc 0 29 [.ref x] (.ref x :: stk) h post := e_1 (e := (28, .aload_n 0, 0, 0)) (q := (29, [.ref x], (.ref x :: stk), h)) (by decide +kernel) rfl rfl
theorem s0_29 {sc : Scr} {l0 : Value}  {stk : List Value} {h : AHp} {post : Option Value → AHp → Prop} : Ev sc 0 29 [l0] stk h post = Ev sc 0 30 [l0] (.int (0) :: stk) h post := e_1 (e := (29, .iconst 0, 0, 0)) (q := (30, [l0], (.int (0) :: stk), h)) (by decide +kernel) rfl rfl
theorem s0_30 {sc : Scr} {l0 : Value} {x : Nat} {v : Int32} {stk : List Value} {h : AHp} {post : Option Value → AHp → Prop} : Ev sc 0 30 [l0] (.int v :: .ref x :: stk) h post = oB (stf h x 0 3 (.int v)) (fun h2 => Ev sc 0 33 [l0] stk h2 post) := e_put (i := 21) (r1 := 0) (r2 := 3) (by decide +kernel)
theorem s0_33 {sc : Scr} {l0 : Value}  {h : AHp} {post : Option Value → AHp → Prop} : Ev sc 0 33 [l0] [] h post = post none h := e_r (e := (33, .return_, 0, 0)) (by decide +kernel) rfl rfl
-- 1 X0_copyFrom (LPartedSums$Knowledge;)V
theorem s1_e {a0 : Nat} {a1 : Nat} {h : AHp} {post : Option Value → AHp → Prop} : Call 1 [.ref a0, .ref a1] h post = Ev none 1 0 [.ref a0, .ref a1] [] h post := rfl
theorem s1_0 {sc : Scr} {l0 : Value} {x : Nat} {stk : List Value} {h : AHp} {post : Option Value → AHp → Prop} : Ev sc 1 0 [l0, .ref x] stk h post = Ev sc 1 1 [l0, .ref x] (.ref x :: stk) h post := e_1 (e := (0, .aload_n 1, 0, 0)) (q := (1, [l0, .ref x], (.ref x :: stk), h)) (by decide +kernel) rfl rfl
theorem s1_1 {sc : Scr} {l0 l1 : Value} {x : Nat} {stk : List Value} {h : AHp} {post : Option Value → AHp → Prop} : Ev sc 1 1 [l0, l1] (.ref x :: stk) h post = oB (fldv h x 0 0) (fun v => Ev sc 1 4 [l0, l1] (v :: stk) h post) := e_get (i := 9) (r1 := 0) (r2 := 0) (by decide +kernel)
theorem s1_4 {sc : Scr} {l0 l1 : Value}  {stk : List Value} {h : AHp} {post : Option Value → AHp → Prop} : Ev sc 1 4 [l0, l1] stk h post = Ev sc 1 5 [l0, l1] (.int (0) :: stk) h post := e_1 (e := (4, .iconst 0, 0, 0)) (q := (5, [l0, l1], (.int (0) :: stk), h)) (by decide +kernel) rfl rfl
theorem s1_5 {sc : Scr} {l1 : Value} {x : Nat} {stk : List Value} {h : AHp} {post : Option Value → AHp → Prop} : Ev sc 1 5 [.ref x, l1] stk h post = Ev sc 1 6 [.ref x, l1] (.ref x :: stk) h post := e_1 (e := (5, .aload_n 0, 0, 0)) (q := (6, [.ref x, l1], (.ref x :: stk), h)) (by decide +kernel) rfl rfl
theorem s1_6 {sc : Scr} {l0 l1 : Value} {x : Nat} {stk : List Value} {h : AHp} {post : Option Value → AHp → Prop} : Ev sc 1 6 [l0, l1] (.ref x :: stk) h post = oB (fldv h x 0 0) (fun v => Ev sc 1 9 [l0, l1] (v :: stk) h post) := e_get (i := 9) (r1 := 0) (r2 := 0) (by decide +kernel)
theorem s1_9 {sc : Scr} {l0 l1 : Value}  {stk : List Value} {h : AHp} {post : Option Value → AHp → Prop} : Ev sc 1 9 [l0, l1] stk h post = Ev sc 1 10 [l0, l1] (.int (0) :: stk) h post := e_1 (e := (9, .iconst 0, 0, 0)) (q := (10, [l0, l1], (.int (0) :: stk), h)) (by decide +kernel) rfl rfl
theorem s1_10 {sc : Scr} {l0 l1 : Value}  {stk : List Value} {h : AHp} {post : Option Value → AHp → Prop} : Ev sc 1 10 [l0, l1] stk h post = Ev sc 1 12 [l0, l1] (.int (8) :: stk) h post := e_1 (e := (10, .bipush 8, 0, 0)) (q := (12, [l0, l1], (.int (8) :: stk), h)) (by decide +kernel) rfl rfl
theorem s1_12 {sc : Scr} {l0 l1 : Value} {x z : Nat} {j k v : Int32} {h : AHp} {post : Option Value → AHp → Prop} : Ev sc 1 12 [l0, l1] [.int v, .int k, .ref z, .int j, .ref x] h post = oB (acp h x j z k v) (fun h2 => Ev sc 1 15 [l0, l1] [] h2 post) := e_acp (i := 25) (r2 := 0) (by decide +kernel) ⟨by decide, rfl⟩
theorem s1_15 {sc : Scr} {l0 : Value} {x : Nat} {stk : List Value} {h : AHp} {post : Option Value → AHp → Prop} : Ev sc 1 15 [l0, .ref x] stk h post = Ev sc 1 16 [l0, .ref x] (.ref x :: stk) h post := e_1 (e := (15, .aload_n 1, 0, 0)) (q := (16, [l0, .ref x], (.ref x :: stk), h)) (by decide +kernel) rfl rfl
theorem s1_16 {sc : Scr} {l0 l1 : Value} {x : Nat} {stk : List Value} {h : AHp} {post : Option Value → AHp → Prop} : Ev sc 1 16 [l0, l1] (.ref x :: stk) h post = oB (fldv h x 0 1) (fun v => Ev sc 1 19 [l0, l1] (v :: stk) h post) := e_get (i := 15) (r1 := 0) (r2 := 1) (by decide +kernel)
theorem s1_19 {sc : Scr} {l0 l1 : Value}  {stk : List Value} {h : AHp} {post : Option Value → AHp → Prop} : Ev sc 1 19 [l0, l1] stk h post = Ev sc 1 20 [l0, l1] (.int (0) :: stk) h post := e_1 (e := (19, .iconst 0, 0, 0)) (q := (20, [l0, l1], (.int (0) :: stk), h)) (by decide +kernel) rfl rfl
theorem s1_20 {sc : Scr} {l1 : Value} {x : Nat} {stk : List Value} {h : AHp} {post : Option Value → AHp → Prop} : Ev sc 1 20 [.ref x, l1] stk h post = Ev sc 1 21 [.ref x, l1] (.ref x :: stk) h post := e_1 (e := (20, .aload_n 0, 0, 0)) (q := (21, [.ref x, l1], (.ref x :: stk), h)) (by decide +kernel) rfl rfl
theorem s1_21 {sc : Scr} {l0 l1 : Value} {x : Nat} {stk : List Value} {h : AHp} {post : Option Value → AHp → Prop} : Ev sc 1 21 [l0, l1] (.ref x :: stk) h post = oB (fldv h x 0 1) (fun v => Ev sc 1 24 [l0, l1] (v :: stk) h post) := e_get (i := 15) (r1 := 0) (r2 := 1) (by decide +kernel)
theorem s1_24 {sc : Scr} {l0 l1 : Value}  {stk : List Value} {h : AHp} {post : Option Value → AHp → Prop} : Ev sc 1 24 [l0, l1] stk h post = Ev sc 1 25 [l0, l1] (.int (0) :: stk) h post := e_1 (e := (24, .iconst 0, 0, 0)) (q := (25, [l0, l1], (.int (0) :: stk), h)) (by decide +kernel) rfl rfl
theorem s1_25 {sc : Scr} {l0 l1 : Value}  {stk : List Value} {h : AHp} {post : Option Value → AHp → Prop} : Ev sc 1 25 [l0, l1] stk h post = Ev sc 1 27 [l0, l1] (.int (8) :: stk) h post := e_1 (e := (25, .bipush 8, 0, 0)) (q := (27, [l0, l1], (.int (8) :: stk), h)) (by decide +kernel) rfl rfl
theorem s1_27 {sc : Scr} {l0 l1 : Value} {x z : Nat} {j k v : Int32} {h : AHp} {post : Option Value → AHp → Prop} : Ev sc 1 27 [l0, l1] [.int v, .int k, .ref z, .int j, .ref x] h post = oB (acp h x j z k v) (fun h2 => Ev sc 1 30 [l0, l1] [] h2 post) := e_acp (i := 25) (r2 := 0) (by decide +kernel) ⟨by decide, rfl⟩
theorem s1_30 {sc : Scr} {l0 : Value} {x : Nat} {stk : List Value} {h : AHp} {post : Option Value → AHp → Prop} : Ev sc 1 30 [l0, .ref x] stk h post = Ev sc 1 31 [l0, .ref x] (.ref x :: stk) h post := e_1 (e := (30, .aload_n 1, 0, 0)) (q := (31, [l0, .ref x], (.ref x :: stk), h)) (by decide +kernel) rfl rfl
theorem s1_31 {sc : Scr} {l0 l1 : Value} {x : Nat} {stk : List Value} {h : AHp} {post : Option Value → AHp → Prop} : Ev sc 1 31 [l0, l1] (.ref x :: stk) h post = oB (fldv h x 0 2) (fun v => Ev sc 1 34 [l0, l1] (v :: stk) h post) := e_get (i := 18) (r1 := 0) (r2 := 2) (by decide +kernel)
theorem s1_34 {sc : Scr} {l0 l1 : Value}  {stk : List Value} {h : AHp} {post : Option Value → AHp → Prop} : Ev sc 1 34 [l0, l1] stk h post = Ev sc 1 35 [l0, l1] (.int (0) :: stk) h post := e_1 (e := (34, .iconst 0, 0, 0)) (q := (35, [l0, l1], (.int (0) :: stk), h)) (by decide +kernel) rfl rfl
theorem s1_35 {sc : Scr} {l1 : Value} {x : Nat} {stk : List Value} {h : AHp} {post : Option Value → AHp → Prop} : Ev sc 1 35 [.ref x, l1] stk h post = Ev sc 1 36 [.ref x, l1] (.ref x :: stk) h post := e_1 (e := (35, .aload_n 0, 0, 0)) (q := (36, [.ref x, l1], (.ref x :: stk), h)) (by decide +kernel) rfl rfl
theorem s1_36 {sc : Scr} {l0 l1 : Value} {x : Nat} {stk : List Value} {h : AHp} {post : Option Value → AHp → Prop} : Ev sc 1 36 [l0, l1] (.ref x :: stk) h post = oB (fldv h x 0 2) (fun v => Ev sc 1 39 [l0, l1] (v :: stk) h post) := e_get (i := 18) (r1 := 0) (r2 := 2) (by decide +kernel)
theorem s1_39 {sc : Scr} {l0 l1 : Value}  {stk : List Value} {h : AHp} {post : Option Value → AHp → Prop} : Ev sc 1 39 [l0, l1] stk h post = Ev sc 1 40 [l0, l1] (.int (0) :: stk) h post := e_1 (e := (39, .iconst 0, 0, 0)) (q := (40, [l0, l1], (.int (0) :: stk), h)) (by decide +kernel) rfl rfl
theorem s1_40 {sc : Scr} {l0 l1 : Value}  {stk : List Value} {h : AHp} {post : Option Value → AHp → Prop} : Ev sc 1 40 [l0, l1] stk h post = Ev sc 1 42 [l0, l1] (.int (8) :: stk) h post := e_1 (e := (40, .bipush 8, 0, 0)) (q := (42, [l0, l1], (.int (8) :: stk), h)) (by decide +kernel) rfl rfl
theorem s1_42 {sc : Scr} {l0 l1 : Value} {x z : Nat} {j k v : Int32} {h : AHp} {post : Option Value → AHp → Prop} : Ev sc 1 42 [l0, l1] [.int v, .int k, .ref z, .int j, .ref x] h post = oB (acp h x j z k v) (fun h2 => Ev sc 1 45 [l0, l1] [] h2 post) := e_acp (i := 25) (r2 := 0) (by decide +kernel) ⟨by decide, rfl⟩
theorem s1_45 {sc : Scr} {l1 : Value} {x : Nat} {stk : List Value} {h : AHp} {post : Option Value → AHp → Prop} : Ev sc 1 45 [.ref x, l1] stk h post = Ev sc 1 46 [.ref x, l1] (.ref x :: stk) h post := e_1 (e := (45, .aload_n 0, 0, 0)) (q := (46, [.ref x, l1], (.ref x :: stk), h)) (by decide +kernel) rfl rfl
theorem s1_46 {sc : Scr} {l0 : Value} {x : Nat} {stk : List Value} {h : AHp} {post : Option Value → AHp → Prop} : Ev sc 1 46 [l0, .ref x] stk h post = Ev sc 1 47 [l0, .ref x] (.ref x :: stk) h post := e_1 (e := (46, .aload_n 1, 0, 0)) (q := (47, [l0, .ref x], (.ref x :: stk), h)) (by decide +kernel) rfl rfl
theorem s1_47 {sc : Scr} {l0 l1 : Value} {x : Nat} {stk : List Value} {h : AHp} {post : Option Value → AHp → Prop} : Ev sc 1 47 [l0, l1] (.ref x :: stk) h post = oB (fldv h x 0 3) (fun v => Ev sc 1 50 [l0, l1] (v :: stk) h post) := e_get (i := 21) (r1 := 0) (r2 := 3) (by decide +kernel)
theorem s1_50 {sc : Scr} {l0 l1 : Value} {x : Nat} {v : Int32} {stk : List Value} {h : AHp} {post : Option Value → AHp → Prop} : Ev sc 1 50 [l0, l1] (.int v :: .ref x :: stk) h post = oB (stf h x 0 3 (.int v)) (fun h2 => Ev sc 1 53 [l0, l1] stk h2 post) := e_put (i := 21) (r1 := 0) (r2 := 3) (by decide +kernel)
theorem s1_53 {sc : Scr} {l0 l1 : Value}  {h : AHp} {post : Option Value → AHp → Prop} : Ev sc 1 53 [l0, l1] [] h post = post none h := e_r (e := (53, .return_, 0, 0)) (by decide +kernel) rfl rfl
-- 2 X0_forgetAll ()V
theorem s2_e {a0 : Nat} {h : AHp} {post : Option Value → AHp → Prop} : Call 2 [.ref a0] h post = Ev none 2 0 [.ref a0, .long 0] [] h post := rfl
theorem s2_0 {sc : Scr} {l0 l1 : Value}  {stk : List Value} {h : AHp} {post : Option Value → AHp → Prop} : Ev sc 2 0 [l0, l1] stk h post = Ev sc 2 1 [l0, l1] (.int (0) :: stk) h post := e_1 (e := (0, .iconst 0, 0, 0)) (q := (1, [l0, l1], (.int (0) :: stk), h)) (by decide +kernel) rfl rfl
theorem s2_1 {sc : Scr} {l0 l1 : Value} {x : Int32} {stk : List Value} {h : AHp} {post : Option Value → AHp → Prop} : Ev sc 2 1 [l0, l1] (.int x :: stk) h post = Ev sc 2 2 [l0, .int x] stk h post := e_1 (e := (1, .istore_n 1, 0, 0)) (q := (2, [l0, .int x], stk, h)) (by decide +kernel) rfl rfl
theorem s2_2 {sc : Scr} {l0 : Value} {x : Int32} {stk : List Value} {h : AHp} {post : Option Value → AHp → Prop} : Ev sc 2 2 [l0, .int x] stk h post = Ev sc 2 3 [l0, .int x] (.int x :: stk) h post := e_1 (e := (2, .iload_n 1, 0, 0)) (q := (3, [l0, .int x], (.int x :: stk), h)) (by decide +kernel) rfl rfl
theorem s2_3 {sc : Scr} {l0 l1 : Value}  {stk : List Value} {h : AHp} {post : Option Value → AHp → Prop} : Ev sc 2 3 [l0, l1] stk h post = Ev sc 2 5 [l0, l1] (.int (8) :: stk) h post := e_1 (e := (3, .bipush 8, 0, 0)) (q := (5, [l0, l1], (.int (8) :: stk), h)) (by decide +kernel) rfl rfl
theorem s2_5 {sc : Scr} {l0 l1 : Value} {x z : Int32} {stk : List Value} {h : AHp} {post : Option Value → AHp → Prop} : Ev sc 2 5 [l0, l1] (.int z :: .int x :: stk) h post = (if z ≤ x then Ev sc 2 19 [l0, l1] stk h post else Ev sc 2 8 [l0, l1] stk h post) := e_icmp_ge (o := 14) (r1 := 0) (r2 := 0) 19 (by decide +kernel) rfl
theorem s2_8 {sc : Scr} {l1 : Value} {x : Nat} {stk : List Value} {h : AHp} {post : Option Value → AHp → Prop} : Ev sc 2 8 [.ref x, l1] stk h post = Ev sc 2 9 [.ref x, l1] (.ref x :: stk) h post := e_1 (e := (8, .aload_n 0, 0, 0)) (q := (9, [.ref x, l1], (.ref x :: stk), h)) (by decide +kernel) rfl rfl
theorem s2_9 {sc : Scr} {l0 : Value} {x : Int32} {stk : List Value} {h : AHp} {post : Option Value → AHp → Prop} : Ev sc 2 9 [l0, .int x] stk h post = Ev sc 2 10 [l0, .int x] (.int x :: stk) h post := e_1 (e := (9, .iload_n 1, 0, 0)) (q := (10, [l0, .int x], (.int x :: stk), h)) (by decide +kernel) rfl rfl
theorem s2_10 {sc : Scr} {l0 l1 : Value} {a0 : Int32}  {x : Nat} {h : AHp} {post : Option Value → AHp → Prop} (ho : isO h x 0) : Ev sc 2 10 [l0, l1] [.int a0, .ref x] h post = Call 3 [.ref x, .int a0] h (fun rv h2 => Ev sc 2 13 [l0, l1] (rv.toList ++ []) h2 post) := e_v (i := 31) (z := 3) (r2 := 0) (as := [.int a0]) (rest := []) (by decide +kernel) rfl rfl (Nat.le_of_ble_eq_true rfl) rfl ho
theorem s2_13 {sc : Scr} {l0 : Value} {x : Int32} {stk : List Value} {h : AHp} {post : Option Value → AHp → Prop} : Ev sc 2 13 [l0, .int x] stk h post = Ev sc 2 16 [l0, .int (x + 1)] stk h post := e_1 (e := (13, .iinc 1 1, 0, 0)) (q := (16, [l0, .int (x + 1)], stk, h)) (by decide +kernel) rfl rfl
theorem s2_16 {sc : Scr} {l0 l1 : Value}  {stk : List Value} {h : AHp} {post : Option Value → AHp → Prop} : Ev sc 2 16 [l0, l1] stk h post = Ev sc 2 2 [l0, l1] stk h post := e_1 (e := (16, .goto (-14), 0, 0)) (q := (2, [l0, l1], stk, h)) (by decide +kernel) rfl rfl
theorem s2_19 {sc : Scr} {l1 : Value} {x : Nat} {stk : List Value} {h : AHp} {post : Option Value → AHp → Prop} : Ev sc 2 19 [.ref x, l1] stk h post = Ev sc 2 20 [.ref x, l1] (.ref x :: stk) h post := e_1 (e := (19, .aload_n 0, 0, 0)) (q := (20, [.ref x, l1], (.ref x :: stk), h)) (by decide +kernel) rfl rfl
theorem s2_20 {sc : Scr} {l0 l1 : Value}  {stk : List Value} {h : AHp} {post : Option Value → AHp → Prop} : Ev sc 2 20 [l0, l1] stk h post = Ev sc 2 21 [l0, l1] (.int (0) :: stk) h post := e_1 (e := (20, .iconst 0, 0, 0)) (q := (21, [l0, l1], (.int (0) :: stk), h)) (by decide +kernel) rfl rfl
theorem s2_21 {sc : Scr} {l0 l1 : Value} {x : Nat} {v : Int32} {stk : List Value} {h : AHp} {post : Option Value → AHp → Prop} : Ev sc 2 21 [l0, l1] (.int v :: .ref x :: stk) h post = oB (stf h x 0 3 (.int v)) (fun h2 => Ev sc 2 24 [l0, l1] stk h2 post) := e_put (i := 21) (r1 := 0) (r2 := 3) (by decide +kernel)
theorem s2_24 {sc : Scr} {l0 l1 : Value}  {h : AHp} {post : Option Value → AHp → Prop} : Ev sc 2 24 [l0, l1] [] h post = post none h := e_r (e := (24, .return_, 0, 0)) (by decide +kernel) rfl rfl
-- 3 X0_forgetPart (I)V
theorem s3_e {a0 : Nat} {a1 : Int32} {h : AHp} {post : Option Value → AHp → Prop} : Call 3 [.ref a0, .int a1] h post = Ev none 3 0 [.ref a0, .int a1] [] h post := rfl
theorem s3_0 {sc : Scr} {l1 : Value} {x : Nat} {stk : List Value} {h : AHp} {post : Option Value → AHp → Prop} : Ev sc 3 0 [.ref x, l1] stk h post = Ev sc 3 1 [.ref x, l1] (.ref x :: stk) h post := e_1 (e := (0, .aload_n 0, 0, 0)) (q := (1, [.ref x, l1], (.ref x :: stk), h)) (by decide +kernel) rfl rfl
theorem s3_1 {sc : Scr} {l0 l1 : Value} {x : Nat} {stk : List Value} {h : AHp} {post : Option Value → AHp → Prop} : Ev sc 3 1 [l0, l1] (.ref x :: stk) h post = oB (fldv h x 0 0) (fun v => Ev sc 3 4 [l0, l1] (v :: stk) h post) := e_get (i := 9) (r1 := 0) (r2 := 0) (by decide +kernel)
theorem s3_4 {sc : Scr} {l0 : Value} {x : Int32} {stk : List Value} {h : AHp} {post : Option Value → AHp → Prop} : Ev sc 3 4 [l0, .int x] stk h post = Ev sc 3 5 [l0, .int x] (.int x :: stk) h post := e_1 (e := (4, .iload_n 1, 0, 0)) (q := (5, [l0, .int x], (.int x :: stk), h)) (by decide +kernel) rfl rfl
theorem s3_5 {sc : Scr} {l0 l1 : Value}  {stk : List Value} {h : AHp} {post : Option Value → AHp → Prop} : Ev sc 3 5 [l0, l1] stk h post = Ev sc 3 6 [l0, l1] (.int (0) :: stk) h post := e_1 (e := (5, .iconst 0, 0, 0)) (q := (6, [l0, l1], (.int (0) :: stk), h)) (by decide +kernel) rfl rfl
theorem s3_6 {sc : Scr} {l0 l1 : Value} {x : Nat} {j v : Int32} {stk : List Value} {h : AHp} {post : Option Value → AHp → Prop} : Ev sc 3 6 [l0, l1] (.int v :: .int j :: .ref x :: stk) h post = oB (sti h x j v) (fun h2 => Ev sc 3 7 [l0, l1] stk h2 post) := e_sti (r1 := 0) (r2 := 0) (by decide +kernel)
theorem s3_7 {sc : Scr} {l1 : Value} {x : Nat} {stk : List Value} {h : AHp} {post : Option Value → AHp → Prop} : Ev sc 3 7 [.ref x, l1] stk h post = Ev sc 3 8 [.ref x, l1] (.ref x :: stk) h post := e_1 (e := (7, .aload_n 0, 0, 0)) (q := (8, [.ref x, l1], (.ref x :: stk), h)) (by decide +kernel) rfl rfl
theorem s3_8 {sc : Scr} {l0 l1 : Value} {x : Nat} {stk : List Value} {h : AHp} {post : Option Value → AHp → Prop} : Ev sc 3 8 [l0, l1] (.ref x :: stk) h post = oB (fldv h x 0 1) (fun v => Ev sc 3 11 [l0, l1] (v :: stk) h post) := e_get (i := 15) (r1 := 0) (r2 := 1) (by decide +kernel)
theorem s3_11 {sc : Scr} {l0 : Value} {x : Int32} {stk : List Value} {h : AHp} {post : Option Value → AHp → Prop} : Ev sc 3 11 [l0, .int x] stk h post = Ev sc 3 12 [l0, .int x] (.int x :: stk) h post := e_1 (e := (11, .iload_n 1, 0, 0)) (q := (12, [l0, .int x], (.int x :: stk), h)) (by decide +kernel) rfl rfl
theorem s3_12 {sc : Scr} {l0 l1 : Value}  {stk : List Value} {h : AHp} {post : Option Value → AHp → Prop} : Ev sc 3 12 [l0, l1] stk h post = Ev sc 3 13 [l0, l1] (.int (0) :: stk) h post := e_1 (e := (12, .iconst 0, 0, 0)) (q := (13, [l0, l1], (.int (0) :: stk), h)) (by decide +kernel) rfl rfl
theorem s3_13 {sc : Scr} {l0 l1 : Value} {x : Nat} {j v : Int32} {stk : List Value} {h : AHp} {post : Option Value → AHp → Prop} : Ev sc 3 13 [l0, l1] (.int v :: .int j :: .ref x :: stk) h post = oB (sti h x j v) (fun h2 => Ev sc 3 14 [l0, l1] stk h2 post) := e_sti (r1 := 0) (r2 := 0) (by decide +kernel)
theorem s3_14 {sc : Scr} {l1 : Value} {x : Nat} {stk : List Value} {h : AHp} {post : Option Value → AHp → Prop} : Ev sc 3 14 [.ref x, l1] stk h post = Ev sc 3 15 [.ref x, l1] (.ref x :: stk) h post := e_1 (e := (14, .aload_n 0, 0, 0)) (q := (15, [.ref x, l1], (.ref x :: stk), h)) (by decide +kernel) rfl rfl
theorem s3_15 {sc : Scr} {l0 l1 : Value} {x : Nat} {stk : List Value} {h : AHp} {post : Option Value → AHp → Prop} : Ev sc 3 15 [l0, l1] (.ref x :: stk) h post = oB (fldv h x 0 2) (fun v => Ev sc 3 18 [l0, l1] (v :: stk) h post) := e_get (i := 18) (r1 := 0) (r2 := 2) (by decide +kernel)
theorem s3_18 {sc : Scr} {l0 : Value} {x : Int32} {stk : List Value} {h : AHp} {post : Option Value → AHp → Prop} : Ev sc 3 18 [l0, .int x] stk h post = Ev sc 3 19 [l0, .int x] (.int x :: stk) h post := e_1 (e := (18, .iload_n 1, 0, 0)) (q := (19, [l0, .int x], (.int x :: stk), h)) (by decide +kernel) rfl rfl
theorem s3_19 {sc : Scr} {l0 l1 : Value}  {stk : List Value} {h : AHp} {post : Option Value → AHp → Prop} : Ev sc 3 19 [l0, l1] stk h post = Ev sc 3 20 [l0, l1] (.int (0) :: stk) h post := e_1 (e := (19, .iconst 0, 0, 0)) (q := (20, [l0, l1], (.int (0) :: stk), h)) (by decide +kernel) rfl rfl
theorem s3_20 {sc : Scr} {l0 l1 : Value} {x : Nat} {j v : Int32} {stk : List Value} {h : AHp} {post : Option Value → AHp → Prop} : Ev sc 3 20 [l0, l1] (.int v :: .int j :: .ref x :: stk) h post = oB (sti h x j v) (fun h2 => Ev sc 3 21 [l0, l1] stk h2 post) := e_sti (r1 := 0) (r2 := 0) (by decide +kernel)
theorem s3_21 {sc : Scr} {l0 l1 : Value}  {h : AHp} {post : Option Value → AHp → Prop} : Ev sc 3 21 [l0, l1] [] h post = post none h := e_r (e := (21, .return_, 0, 0)) (by decide +kernel) rfl rfl
-- 4 X0_knows (I)Z
theorem s4_e {a0 : Nat} {a1 : Int32} {h : AHp} {post : Option Value → AHp → Prop} : Call 4 [.ref a0, .int a1] h post = Ev none 4 0 [.ref a0, .int a1] [] h post := rfl
theorem s4_0 {sc : Scr} {l1 : Value} {x : Nat} {stk : List Value} {h : AHp} {post : Option Value → AHp → Prop} : Ev sc 4 0 [.ref x, l1] stk h post = Ev sc 4 1 [.ref x, l1] (.ref x :: stk) h post := e_1 (e := (0, .aload_n 0, 0, 0)) (q := (1, [.ref x, l1], (.ref x :: stk), h)) (by decide +kernel) rfl rfl
theorem s4_1 {sc : Scr} {l0 l1 : Value} {x : Nat} {stk : List Value} {h : AHp} {post : Option Value → AHp → Prop} : Ev sc 4 1 [l0, l1] (.ref x :: stk) h post = oB (fldv h x 0 0) (fun v => Ev sc 4 4 [l0, l1] (v :: stk) h post) := e_get (i := 9) (r1 := 0) (r2 := 0) (by decide +kernel)
theorem s4_4 {sc : Scr} {l0 : Value} {x : Int32} {stk : List Value} {h : AHp} {post : Option Value → AHp → Prop} : Ev sc 4 4 [l0, .int x] stk h post = Ev sc 4 5 [l0, .int x] (.int x :: stk) h post := e_1 (e := (4, .iload_n 1, 0, 0)) (q := (5, [l0, .int x], (.int x :: stk), h)) (by decide +kernel) rfl rfl
theorem s4_5 {sc : Scr} {l0 l1 : Value} {x : Nat} {j : Int32} {stk : List Value} {h : AHp} {post : Option Value → AHp → Prop} : Ev sc 4 5 [l0, l1] (.int j :: .ref x :: stk) h post = oB (ldi h x j) (fun v => Ev sc 4 6 [l0, l1] (.int v :: stk) h post) := e_ldi (r1 := 0) (r2 := 0) (by decide +kernel)
theorem s4_6 {sc : Scr} {l0 l1 : Value} {x : Int32} {stk : List Value} {h : AHp} {post : Option Value → AHp → Prop} : Ev sc 4 6 [l0, l1] (.int x :: stk) h post = (if x ≤ 0 then Ev sc 4 13 [l0, l1] stk h post else Ev sc 4 9 [l0, l1] stk h post) := e_if_le (o := 7) (r1 := 0) (r2 := 0) 13 (by decide +kernel) rfl
theorem s4_9 {sc : Scr} {l0 l1 : Value}  {stk : List Value} {h : AHp} {post : Option Value → AHp → Prop} : Ev sc 4 9 [l0, l1] stk h post = Ev sc 4 10 [l0, l1] (.int (1) :: stk) h post := e_1 (e := (9, .iconst 1, 0, 0)) (q := (10, [l0, l1], (.int (1) :: stk), h)) (by decide +kernel) rfl rfl
theorem s4_10 {sc : Scr} {l0 l1 : Value}  {stk : List Value} {h : AHp} {post : Option Value → AHp → Prop} : Ev sc 4 10 [l0, l1] stk h post = Ev sc 4 14 [l0, l1] stk h post := e_1 (e := (10, .goto 4, 0, 0)) (q := (14, [l0, l1], stk, h)) (by decide +kernel) rfl rfl
theorem s4_13 {sc : Scr} {l0 l1 : Value}  {stk : List Value} {h : AHp} {post : Option Value → AHp → Prop} : Ev sc 4 13 [l0, l1] stk h post = Ev sc 4 14 [l0, l1] (.int (0) :: stk) h post := e_1 (e := (13, .iconst 0, 0, 0)) (q := (14, [l0, l1], (.int (0) :: stk), h)) (by decide +kernel) rfl rfl
theorem s4_14 {sc : Scr} {l0 l1 : Value} {x : Int32} {h : AHp} {post : Option Value → AHp → Prop} : Ev sc 4 14 [l0, l1] [.int x] h post = ((x = 0 ∨ x = 1) ∧ post (some (.int x)) h) := e_retb (r1 := 0) (r2 := 0) (by decide +kernel) rfl
-- 5 X0_hasGrave (I)Z
theorem s5_e {a0 : Nat} {a1 : Int32} {h : AHp} {post : Option Value → AHp → Prop} : Call 5 [.ref a0, .int a1] h post = Ev none 5 0 [.ref a0, .int a1] [] h post := rfl
theorem s5_0 {sc : Scr} {l1 : Value} {x : Nat} {stk : List Value} {h : AHp} {post : Option Value → AHp → Prop} : Ev sc 5 0 [.ref x, l1] stk h post = Ev sc 5 1 [.ref x, l1] (.ref x :: stk) h post := e_1 (e := (0, .aload_n 0, 0, 0)) (q := (1, [.ref x, l1], (.ref x :: stk), h)) (by decide +kernel) rfl rfl
theorem s5_1 {sc : Scr} {l0 l1 : Value} {x : Nat} {stk : List Value} {h : AHp} {post : Option Value → AHp → Prop} : Ev sc 5 1 [l0, l1] (.ref x :: stk) h post = oB (fldv h x 0 3) (fun v => Ev sc 5 4 [l0, l1] (v :: stk) h post) := e_get (i := 21) (r1 := 0) (r2 := 3) (by decide +kernel)
theorem s5_4 {sc : Scr} {l0 l1 : Value}  {stk : List Value} {h : AHp} {post : Option Value → AHp → Prop} : Ev sc 5 4 [l0, l1] stk h post = Ev sc 5 5 [l0, l1] (.int (1) :: stk) h post := e_1 (e := (4, .iconst 1, 0, 0)) (q := (5, [l0, l1], (.int (1) :: stk), h)) (by decide +kernel) rfl rfl
theorem s5_5 {sc : Scr} {l0 : Value} {x : Int32} {stk : List Value} {h : AHp} {post : Option Value → AHp → Prop} : Ev sc 5 5 [l0, .int x] stk h post = Ev sc 5 6 [l0, .int x] (.int x :: stk) h post := e_1 (e := (5, .iload_n 1, 0, 0)) (q := (6, [l0, .int x], (.int x :: stk), h)) (by decide +kernel) rfl rfl
theorem s5_6 {sc : Scr} {l0 l1 : Value} {x z : Int32} {stk : List Value} {h : AHp} {post : Option Value → AHp → Prop} : Ev sc 5 6 [l0, l1] (.int z :: .int x :: stk) h post = Ev sc 5 7 [l0, l1] (.int (x <<< (z &&& 31)) :: stk) h post := e_1 (e := (6, .ishl, 0, 0)) (q := (7, [l0, l1], (.int (x <<< (z &&& 31)) :: stk), h)) (by decide +kernel) rfl rfl
theorem s5_7 {sc : Scr} {l0 l1 : Value} {x z : Int32} {stk : List Value} {h : AHp} {post : Option Value → AHp → Prop} : Ev sc 5 7 [l0, l1] (.int z :: .int x :: stk) h post = Ev sc 5 8 [l0, l1] (.int (x &&& z) :: stk) h post := e_1 (e := (7, .iand, 0, 0)) (q := (8, [l0, l1], (.int (x &&& z) :: stk), h)) (by decide +kernel) rfl rfl
theorem s5_8 {sc : Scr} {l0 l1 : Value} {x : Int32} {stk : List Value} {h : AHp} {post : Option Value → AHp → Prop} : Ev sc 5 8 [l0, l1] (.int x :: stk) h post = (if x = 0 then Ev sc 5 15 [l0, l1] stk h post else Ev sc 5 11 [l0, l1] stk h post) := e_if_eq (o := 7) (r1 := 0) (r2 := 0) 15 (by decide +kernel) rfl
theorem s5_11 {sc : Scr} {l0 l1 : Value}  {stk : List Value} {h : AHp} {post : Option Value → AHp → Prop} : Ev sc 5 11 [l0, l1] stk h post = Ev sc 5 12 [l0, l1] (.int (1) :: stk) h post := e_1 (e := (11, .iconst 1, 0, 0)) (q := (12, [l0, l1], (.int (1) :: stk), h)) (by decide +kernel) rfl rfl
theorem s5_12 {sc : Scr} {l0 l1 : Value}  {stk : List Value} {h : AHp} {post : Option Value → AHp → Prop} : Ev sc 5 12 [l0, l1] stk h post = Ev sc 5 16 [l0, l1] stk h post := e_1 (e := (12, .goto 4, 0, 0)) (q := (16, [l0, l1], stk, h)) (by decide +kernel) rfl rfl
theorem s5_15 {sc : Scr} {l0 l1 : Value}  {stk : List Value} {h : AHp} {post : Option Value → AHp → Prop} : Ev sc 5 15 [l0, l1] stk h post = Ev sc 5 16 [l0, l1] (.int (0) :: stk) h post := e_1 (e := (15, .iconst 0, 0, 0)) (q := (16, [l0, l1], (.int (0) :: stk), h)) (by decide +kernel) rfl rfl
theorem s5_16 {sc : Scr} {l0 l1 : Value} {x : Int32} {h : AHp} {post : Option Value → AHp → Prop} : Ev sc 5 16 [l0, l1] [.int x] h post = ((x = 0 ∨ x = 1) ∧ post (some (.int x)) h) := e_retb (r1 := 0) (r2 := 0) (by decide +kernel) rfl
-- 6 X0_raise (III)V
theorem s6_e {a0 : Nat} {a1 : Int32} {a2 : Int32} {a3 : Int32} {h : AHp} {post : Option Value → AHp → Prop} : Call 6 [.ref a0, .int a1, .int a2, .int a3] h post = Ev none 6 0 [.ref a0, .int a1, .int a2, .int a3] [] h post := rfl
theorem s6_0 {sc : Scr} {l1 l2 l3 : Value} {x : Nat} {stk : List Value} {h : AHp} {post : Option Value → AHp → Prop} : Ev sc 6 0 [.ref x, l1, l2, l3] stk h post = Ev sc 6 1 [.ref x, l1, l2, l3] (.ref x :: stk) h post := e_1 (e := (0, .aload_n 0, 0, 0)) (q := (1, [.ref x, l1, l2, l3], (.ref x :: stk), h)) (by decide +kernel) rfl rfl
theorem s6_1 {sc : Scr} {l0 l1 l2 l3 : Value} {x : Nat} {stk : List Value} {h : AHp} {post : Option Value → AHp → Prop} : Ev sc 6 1 [l0, l1, l2, l3] (.ref x :: stk) h post = oB (fldv h x 0 0) (fun v => Ev sc 6 4 [l0, l1, l2, l3] (v :: stk) h post) := e_get (i := 9) (r1 := 0) (r2 := 0) (by decide +kernel)
theorem s6_4 {sc : Scr} {l0 l2 l3 : Value} {x : Int32} {stk : List Value} {h : AHp} {post : Option Value → AHp → Prop} : Ev sc 6 4 [l0, .int x, l2, l3] stk h post = Ev sc 6 5 [l0, .int x, l2, l3] (.int x :: stk) h post := e_1 (e := (4, .iload_n 1, 0, 0)) (q := (5, [l0, .int x, l2, l3], (.int x :: stk), h)) (by decide +kernel) rfl rfl
theorem s6_5 {sc : Scr} {l0 l1 l2 l3 : Value} {x : Int32} {z : Nat} {stk : List Value} {h : AHp} {post : Option Value → AHp → Prop} : Ev sc 6 5 [l0, l1, l2, l3] (.int x :: .ref z :: stk) h post = Ev sc 6 6 [l0, l1, l2, l3] (.int x :: .ref z :: .int x :: .ref z :: stk) h post := e_1 (e := (5, .dup2, 0, 0)) (q := (6, [l0, l1, l2, l3], (.int x :: .ref z :: .int x :: .ref z :: stk), h)) (by decide +kernel) rfl rfl
theorem s6_6 {sc : Scr} {l0 l1 l2 l3 : Value} {x : Nat} {j : Int32} {stk : List Value} {h : AHp} {post : Option Value → AHp → Prop} : Ev sc 6 6 [l0, l1, l2, l3] (.int j :: .ref x :: stk) h post = oB (ldi h x j) (fun v => Ev sc 6 7 [l0, l1, l2, l3] (.int v :: stk) h post) := e_ldi (r1 := 0) (r2 := 0) (by decide +kernel)
theorem s6_7 {sc : Scr} {l0 l1 l2 l3 : Value}  {stk : List Value} {h : AHp} {post : Option Value → AHp → Prop} : Ev sc 6 7 [l0, l1, l2, l3] stk h post = Ev sc 6 8 [l0, l1, l2, l3] (.int (1) :: stk) h post := e_1 (e := (7, .iconst 1, 0, 0)) (q := (8, [l0, l1, l2, l3], (.int (1) :: stk), h)) (by decide +kernel) rfl rfl
theorem s6_8 {sc : Scr} {l0 l1 l2 l3 : Value} {x z : Int32} {stk : List Value} {h : AHp} {post : Option Value → AHp → Prop} : Ev sc 6 8 [l0, l1, l2, l3] (.int z :: .int x :: stk) h post = Ev sc 6 9 [l0, l1, l2, l3] (.int (x + z) :: stk) h post := e_1 (e := (8, .iadd, 0, 0)) (q := (9, [l0, l1, l2, l3], (.int (x + z) :: stk), h)) (by decide +kernel) rfl rfl
theorem s6_9 {sc : Scr} {l0 l1 l2 l3 : Value} {x : Nat} {j v : Int32} {stk : List Value} {h : AHp} {post : Option Value → AHp → Prop} : Ev sc 6 9 [l0, l1, l2, l3] (.int v :: .int j :: .ref x :: stk) h post = oB (sti h x j v) (fun h2 => Ev sc 6 10 [l0, l1, l2, l3] stk h2 post) := e_sti (r1 := 0) (r2 := 0) (by decide +kernel)
theorem s6_10 {sc : Scr} {l1 l2 l3 : Value} {x : Nat} {stk : List Value} {h : AHp} {post : Option Value → AHp → Prop} : Ev sc 6 10 [.ref x, l1, l2, l3] stk h post = Ev sc 6 11 [.ref x, l1, l2, l3] (.ref x :: stk) h post := e_1 (e := (10, .aload_n 0, 0, 0)) (q := (11, [.ref x, l1, l2, l3], (.ref x :: stk), h)) (by decide +kernel) rfl rfl
theorem s6_11 {sc : Scr} {l0 l1 l2 l3 : Value} {x : Nat} {stk : List Value} {h : AHp} {post : Option Value → AHp → Prop} : Ev sc 6 11 [l0, l1, l2, l3] (.ref x :: stk) h post = oB (fldv h x 0 1) (fun v => Ev sc 6 14 [l0, l1, l2, l3] (v :: stk) h post) := e_get (i := 15) (r1 := 0) (r2 := 1) (by decide +kernel)
theorem s6_14 {sc : Scr} {l0 l2 l3 : Value} {x : Int32} {stk : List Value} {h : AHp} {post : Option Value → AHp → Prop} : Ev sc 6 14 [l0, .int x, l2, l3] stk h post = Ev sc 6 15 [l0, .int x, l2, l3] (.int x :: stk) h post := e_1 (e := (14, .iload_n 1, 0, 0)) (q := (15, [l0, .int x, l2, l3], (.int x :: stk), h)) (by decide +kernel) rfl rfl
theorem s6_15 {sc : Scr} {l0 l1 l2 l3 : Value} {x : Int32} {z : Nat} {stk : List Value} {h : AHp} {post : Option Value → AHp → Prop} : Ev sc 6 15 [l0, l1, l2, l3] (.int x :: .ref z :: stk) h post = Ev sc 6 16 [l0, l1, l2, l3] (.int x :: .ref z :: .int x :: .ref z :: stk) h post := e_1 (e := (15, .dup2, 0, 0)) (q := (16, [l0, l1, l2, l3], (.int x :: .ref z :: .int x :: .ref z :: stk), h)) (by decide +kernel) rfl rfl
theorem s6_16 {sc : Scr} {l0 l1 l2 l3 : Value} {x : Nat} {j : Int32} {stk : List Value} {h : AHp} {post : Option Value → AHp → Prop} : Ev sc 6 16 [l0, l1, l2, l3] (.int j :: .ref x :: stk) h post = oB (ldi h x j) (fun v => Ev sc 6 17 [l0, l1, l2, l3] (.int v :: stk) h post) := e_ldi (r1 := 0) (r2 := 0) (by decide +kernel)
theorem s6_17 {sc : Scr} {l0 l1 l3 : Value} {x : Int32} {stk : List Value} {h : AHp} {post : Option Value → AHp → Prop} : Ev sc 6 17 [l0, l1, .int x, l3] stk h post = Ev sc 6 18 [l0, l1, .int x, l3] (.int x :: stk) h post := e_1 (e := (17, .iload_n 2, 0, 0)) (q := (18, [l0, l1, .int x, l3], (.int x :: stk), h)) (by decide +kernel) rfl rfl
theorem s6_18 {sc : Scr} {l0 l1 l2 l3 : Value} {x z : Int32} {stk : List Value} {h : AHp} {post : Option Value → AHp → Prop} : Ev sc 6 18 [l0, l1, l2, l3] (.int z :: .int x :: stk) h post = Ev sc 6 19 [l0, l1, l2, l3] (.int (x + z) :: stk) h post := e_1 (e := (18, .iadd, 0, 0)) (q := (19, [l0, l1, l2, l3], (.int (x + z) :: stk), h)) (by decide +kernel) rfl rfl
theorem s6_19 {sc : Scr} {l0 l1 l2 l3 : Value} {x : Nat} {j v : Int32} {stk : List Value} {h : AHp} {post : Option Value → AHp → Prop} : Ev sc 6 19 [l0, l1, l2, l3] (.int v :: .int j :: .ref x :: stk) h post = oB (sti h x j v) (fun h2 => Ev sc 6 20 [l0, l1, l2, l3] stk h2 post) := e_sti (r1 := 0) (r2 := 0) (by decide +kernel)
theorem s6_20 {sc : Scr} {l1 l2 l3 : Value} {x : Nat} {stk : List Value} {h : AHp} {post : Option Value → AHp → Prop} : Ev sc 6 20 [.ref x, l1, l2, l3] stk h post = Ev sc 6 21 [.ref x, l1, l2, l3] (.ref x :: stk) h post := e_1 (e := (20, .aload_n 0, 0, 0)) (q := (21, [.ref x, l1, l2, l3], (.ref x :: stk), h)) (by decide +kernel) rfl rfl
theorem s6_21 {sc : Scr} {l0 l1 l2 l3 : Value} {x : Nat} {stk : List Value} {h : AHp} {post : Option Value → AHp → Prop} : Ev sc 6 21 [l0, l1, l2, l3] (.ref x :: stk) h post = oB (fldv h x 0 2) (fun v => Ev sc 6 24 [l0, l1, l2, l3] (v :: stk) h post) := e_get (i := 18) (r1 := 0) (r2 := 2) (by decide +kernel)
theorem s6_24 {sc : Scr} {l0 l2 l3 : Value} {x : Int32} {stk : List Value} {h : AHp} {post : Option Value → AHp → Prop} : Ev sc 6 24 [l0, .int x, l2, l3] stk h post = Ev sc 6 25 [l0, .int x, l2, l3] (.int x :: stk) h post := e_1 (e := (24, .iload_n 1, 0, 0)) (q := (25, [l0, .int x, l2, l3], (.int x :: stk), h)) (by decide +kernel) rfl rfl
theorem s6_25 {sc : Scr} {l0 l1 l2 l3 : Value} {x : Int32} {z : Nat} {stk : List Value} {h : AHp} {post : Option Value → AHp → Prop} : Ev sc 6 25 [l0, l1, l2, l3] (.int x :: .ref z :: stk) h post = Ev sc 6 26 [l0, l1, l2, l3] (.int x :: .ref z :: .int x :: .ref z :: stk) h post := e_1 (e := (25, .dup2, 0, 0)) (q := (26, [l0, l1, l2, l3], (.int x :: .ref z :: .int x :: .ref z :: stk), h)) (by decide +kernel) rfl rfl
theorem s6_26 {sc : Scr} {l0 l1 l2 l3 : Value} {x : Nat} {j : Int32} {stk : List Value} {h : AHp} {post : Option Value → AHp → Prop} : Ev sc 6 26 [l0, l1, l2, l3] (.int j :: .ref x :: stk) h post = oB (ldi h x j) (fun v => Ev sc 6 27 [l0, l1, l2, l3] (.int v :: stk) h post) := e_ldi (r1 := 0) (r2 := 0) (by decide +kernel)
theorem s6_27 {sc : Scr} {l0 l1 l2 : Value} {x : Int32} {stk : List Value} {h : AHp} {post : Option Value → AHp → Prop} : Ev sc 6 27 [l0, l1, l2, .int x] stk h post = Ev sc 6 28 [l0, l1, l2, .int x] (.int x :: stk) h post := e_1 (e := (27, .iload_n 3, 0, 0)) (q := (28, [l0, l1, l2, .int x], (.int x :: stk), h)) (by decide +kernel) rfl rfl
theorem s6_28 {sc : Scr} {l0 l1 l2 l3 : Value} {x z : Int32} {stk : List Value} {h : AHp} {post : Option Value → AHp → Prop} : Ev sc 6 28 [l0, l1, l2, l3] (.int z :: .int x :: stk) h post = Ev sc 6 29 [l0, l1, l2, l3] (.int (x + z) :: stk) h post := e_1 (e := (28, .iadd, 0, 0)) (q := (29, [l0, l1, l2, l3], (.int (x + z) :: stk), h)) (by decide +kernel) rfl rfl
theorem s6_29 {sc : Scr} {l0 l1 l2 l3 : Value} {x : Nat} {j v : Int32} {stk : List Value} {h : AHp} {post : Option Value → AHp → Prop} : Ev sc 6 29 [l0, l1, l2, l3] (.int v :: .int j :: .ref x :: stk) h post = oB (sti h x j v) (fun h2 => Ev sc 6 30 [l0, l1, l2, l3] stk h2 post) := e_sti (r1 := 0) (r2 := 0) (by decide +kernel)
theorem s6_30 {sc : Scr} {l0 l1 l2 l3 : Value}  {h : AHp} {post : Option Value → AHp → Prop} : Ev sc 6 30 [l0, l1, l2, l3] [] h post = post none h := e_r (e := (30, .return_, 0, 0)) (by decide +kernel) rfl rfl
-- 7 X0_bequeath (II)V
theorem s7_e {a0 : Nat} {a1 : Int32} {a2 : Int32} {h : AHp} {post : Option Value → AHp → Prop} : Call 7 [.ref a0, .int a1, .int a2] h post = Ev none 7 0 [.ref a0, .int a1, .int a2] [] h post := rfl
theorem s7_0 {sc : Scr} {l1 l2 : Value} {x : Nat} {stk : List Value} {h : AHp} {post : Option Value → AHp → Prop} : Ev sc 7 0 [.ref x, l1, l2] stk h post = Ev sc 7 1 [.ref x, l1, l2] (.ref x :: stk) h post := e_1 (e := (0, .aload_n 0, 0, 0)) (q := (1, [.ref x, l1, l2], (.ref x :: stk), h)) (by decide +kernel) rfl rfl
theorem s7_1 {sc : Scr} {l0 l1 : Value} {x : Int32} {stk : List Value} {h : AHp} {post : Option Value → AHp → Prop} : Ev sc 7 1 [l0, l1, .int x] stk h post = Ev sc 7 2 [l0, l1, .int x] (.int x :: stk) h post := e_1 (e := (1, .iload_n 2, 0, 0)) (q := (2, [l0, l1, .int x], (.int x :: stk), h)) (by decide +kernel) rfl rfl
theorem s7_2 {sc : Scr} {l1 l2 : Value} {x : Nat} {stk : List Value} {h : AHp} {post : Option Value → AHp → Prop} : Ev sc 7 2 [.ref x, l1, l2] stk h post = Ev sc 7 3 [.ref x, l1, l2] (.ref x :: stk) h post := e_1 (e := (2, .aload_n 0, 0, 0)) (q := (3, [.ref x, l1, l2], (.ref x :: stk), h)) (by decide +kernel) rfl rfl
theorem s7_3 {sc : Scr} {l0 l1 l2 : Value} {x : Nat} {stk : List Value} {h : AHp} {post : Option Value → AHp → Prop} : Ev sc 7 3 [l0, l1, l2] (.ref x :: stk) h post = oB (fldv h x 0 1) (fun v => Ev sc 7 6 [l0, l1, l2] (v :: stk) h post) := e_get (i := 15) (r1 := 0) (r2 := 1) (by decide +kernel)
theorem s7_6 {sc : Scr} {l0 l2 : Value} {x : Int32} {stk : List Value} {h : AHp} {post : Option Value → AHp → Prop} : Ev sc 7 6 [l0, .int x, l2] stk h post = Ev sc 7 7 [l0, .int x, l2] (.int x :: stk) h post := e_1 (e := (6, .iload_n 1, 0, 0)) (q := (7, [l0, .int x, l2], (.int x :: stk), h)) (by decide +kernel) rfl rfl
theorem s7_7 {sc : Scr} {l0 l1 l2 : Value} {x : Nat} {j : Int32} {stk : List Value} {h : AHp} {post : Option Value → AHp → Prop} : Ev sc 7 7 [l0, l1, l2] (.int j :: .ref x :: stk) h post = oB (ldi h x j) (fun v => Ev sc 7 8 [l0, l1, l2] (.int v :: stk) h post) := e_ldi (r1 := 0) (r2 := 0) (by decide +kernel)
theorem s7_8 {sc : Scr} {l1 l2 : Value} {x : Nat} {stk : List Value} {h : AHp} {post : Option Value → AHp → Prop} : Ev sc 7 8 [.ref x, l1, l2] stk h post = Ev sc 7 9 [.ref x, l1, l2] (.ref x :: stk) h post := e_1 (e := (8, .aload_n 0, 0, 0)) (q := (9, [.ref x, l1, l2], (.ref x :: stk), h)) (by decide +kernel) rfl rfl
theorem s7_9 {sc : Scr} {l0 l1 l2 : Value} {x : Nat} {stk : List Value} {h : AHp} {post : Option Value → AHp → Prop} : Ev sc 7 9 [l0, l1, l2] (.ref x :: stk) h post = oB (fldv h x 0 2) (fun v => Ev sc 7 12 [l0, l1, l2] (v :: stk) h post) := e_get (i := 18) (r1 := 0) (r2 := 2) (by decide +kernel)
theorem s7_12 {sc : Scr} {l0 l2 : Value} {x : Int32} {stk : List Value} {h : AHp} {post : Option Value → AHp → Prop} : Ev sc 7 12 [l0, .int x, l2] stk h post = Ev sc 7 13 [l0, .int x, l2] (.int x :: stk) h post := e_1 (e := (12, .iload_n 1, 0, 0)) (q := (13, [l0, .int x, l2], (.int x :: stk), h)) (by decide +kernel) rfl rfl
theorem s7_13 {sc : Scr} {l0 l1 l2 : Value} {x : Nat} {j : Int32} {stk : List Value} {h : AHp} {post : Option Value → AHp → Prop} : Ev sc 7 13 [l0, l1, l2] (.int j :: .ref x :: stk) h post = oB (ldi h x j) (fun v => Ev sc 7 14 [l0, l1, l2] (.int v :: stk) h post) := e_ldi (r1 := 0) (r2 := 0) (by decide +kernel)
theorem s7_14 {sc : Scr} {l0 l1 l2 : Value} {a0 : Int32} {a1 : Int32} {a2 : Int32}  {x : Nat} {h : AHp} {post : Option Value → AHp → Prop} (ho : isO h x 0) : Ev sc 7 14 [l0, l1, l2] [.int a0, .int a1, .int a2, .ref x] h post = Call 6 [.ref x, .int a2, .int a1, .int a0] h (fun rv h2 => Ev sc 7 17 [l0, l1, l2] (rv.toList ++ []) h2 post) := e_v (i := 35) (z := 6) (r2 := 0) (as := [.int a2, .int a1, .int a0]) (rest := []) (by decide +kernel) rfl rfl (Nat.le_of_ble_eq_true rfl) rfl ho
theorem s7_17 {sc : Scr} {l1 l2 : Value} {x : Nat} {stk : List Value} {h : AHp} {post : Option Value → AHp → Prop} : Ev sc 7 17 [.ref x, l1, l2] stk h post = Ev sc 7 18 [.ref x, l1, l2] (.ref x :: stk) h post := e_1 (e := (17, .aload_n 0, 0, 0)) (q := (18, [.ref x, l1, l2], (.ref x :: stk), h)) (by decide +kernel) rfl rfl
theorem s7_18 {sc : Scr} {l0 l2 : Value} {x : Int32} {stk : List Value} {h : AHp} {post : Option Value → AHp → Prop} : Ev sc 7 18 [l0, .int x, l2] stk h post = Ev sc 7 19 [l0, .int x, l2] (.int x :: stk) h post := e_1 (e := (18, .iload_n 1, 0, 0)) (q := (19, [l0, .int x, l2], (.int x :: stk), h)) (by decide +kernel) rfl rfl
theorem s7_19 {sc : Scr} {l0 l1 l2 : Value} {a0 : Int32}  {x : Nat} {h : AHp} {post : Option Value → AHp → Prop} (ho : isO h x 0) : Ev sc 7 19 [l0, l1, l2] [.int a0, .ref x] h post = Call 3 [.ref x, .int a0] h (fun rv h2 => Ev sc 7 22 [l0, l1, l2] (rv.toList ++ []) h2 post) := e_v (i := 31) (z := 3) (r2 := 0) (as := [.int a0]) (rest := []) (by decide +kernel) rfl rfl (Nat.le_of_ble_eq_true rfl) rfl ho
theorem s7_22 {sc : Scr} {l1 l2 : Value} {x : Nat} {stk : List Value} {h : AHp} {post : Option Value → AHp → Prop} : Ev sc 7 22 [.ref x, l1, l2] stk h post = Ev sc 7 23 [.ref x, l1, l2] (.ref x :: stk) h post := e_1 (e := (22, .aload_n 0, 0, 0)) (q := (23, [.ref x, l1, l2], (.ref x :: stk), h)) (by decide +kernel) rfl rfl
theorem s7_23 {sc : Scr} {l0 l1 l2 : Value} {x : Nat} {stk : List Value} {h : AHp} {post : Option Value → AHp → Prop} : Ev sc 7 23 [l0, l1, l2] (.ref x :: stk) h post = Ev sc 7 24 [l0, l1, l2] (.ref x :: .ref x :: stk) h post := e_1 (e := (23, .dup, 0, 0)) (q := (24, [l0, l1, l2], (.ref x :: .ref x :: stk), h)) (by decide +kernel) rfl rfl
theorem s7_24 {sc : Scr} {l0 l1 l2 : Value} {x : Nat} {stk : List Value} {h : AHp} {post : Option Value → AHp → Prop} : Ev sc 7 24 [l0, l1, l2] (.ref x :: stk) h post = oB (fldv h x 0 3) (fun v => Ev sc 7 27 [l0, l1, l2] (v :: stk) h post) := e_get (i := 21) (r1 := 0) (r2 := 3) (by decide +kernel)
theorem s7_27 {sc : Scr} {l0 l1 l2 : Value}  {stk : List Value} {h : AHp} {post : Option Value → AHp → Prop} : Ev sc 7 27 [l0, l1, l2] stk h post = Ev sc 7 28 [l0, l1, l2] (.int (1) :: stk) h post := e_1 (e := (27, .iconst 1, 0, 0)) (q := (28, [l0, l1, l2], (.int (1) :: stk), h)) (by decide +kernel) rfl rfl
theorem s7_28 {sc : Scr} {l0 l2 : Value} {x : Int32} {stk : List Value} {h : AHp} {post : Option Value → AHp → Prop} : Ev sc 7 28 [l0, .int x, l2] stk h post = Ev sc 7 29 [l0, .int x, l2] (.int x :: stk) h post := e_1 (e := (28, .iload_n 1, 0, 0)) (q := (29, [l0, .int x, l2], (.int x :: stk), h)) (by decide +kernel) rfl rfl
theorem s7_29 {sc : Scr} {l0 l1 l2 : Value} {x z : Int32} {stk : List Value} {h : AHp} {post : Option Value → AHp → Prop} : Ev sc 7 29 [l0, l1, l2] (.int z :: .int x :: stk) h post = Ev sc 7 30 [l0, l1, l2] (.int (x <<< (z &&& 31)) :: stk) h post := e_1 (e := (29, .ishl, 0, 0)) (q := (30, [l0, l1, l2], (.int (x <<< (z &&& 31)) :: stk), h)) (by decide +kernel) rfl rfl
theorem s7_30 {sc : Scr} {l0 l1 l2 : Value} {x z : Int32} {stk : List Value} {h : AHp} {post : Option Value → AHp → Prop} : Ev sc 7 30 [l0, l1, l2] (.int z :: .int x :: stk) h post = Ev sc 7 31 [l0, l1, l2] (.int (x ||| z) :: stk) h post := e_1 (e := (30, .ior, 0, 0)) (q := (31, [l0, l1, l2], (.int (x ||| z) :: stk), h)) (by decide +kernel) rfl rfl
theorem s7_31 {sc : Scr} {l0 l1 l2 : Value} {x : Nat} {v : Int32} {stk : List Value} {h : AHp} {post : Option Value → AHp → Prop} : Ev sc 7 31 [l0, l1, l2] (.int v :: .ref x :: stk) h post = oB (stf h x 0 3 (.int v)) (fun h2 => Ev sc 7 34 [l0, l1, l2] stk h2 post) := e_put (i := 21) (r1 := 0) (r2 := 3) (by decide +kernel)
theorem s7_34 {sc : Scr} {l0 l1 l2 : Value}  {h : AHp} {post : Option Value → AHp → Prop} : Ev sc 7 34 [l0, l1, l2] [] h post = post none h := e_r (e := (34, .return_, 0, 0)) (by decide +kernel) rfl rfl
-- 8 X0_takeIn (LPartedSums$Knowledge;)I
theorem s8_e {a0 : Nat} {a1 : Nat} {h : AHp} {post : Option Value → AHp → Prop} : Call 8 [.ref a0, .ref a1] h post = Ev none 8 0 [.ref a0, .ref a1, .long 0, .long 0, .long 0] [] h post := rfl
theorem s8_0 {sc : Scr} {l1 l2 l3 l4 : Value} {x : Nat} {stk : List Value} {h : AHp} {post : Option Value → AHp → Prop} : Ev sc 8 0 [.ref x, l1, l2, l3, l4] stk h post = Ev sc 8 1 [.ref x, l1, l2, l3, l4] (.ref x :: stk) h post := e_1 (e := (0, .aload_n 0, 0, 0)) (q := (1, [.ref x, l1, l2, l3, l4], (.ref x :: stk), h)) (by decide +kernel) rfl rfl
theorem s8_1 {sc : Scr} {l0 l1 l2 l3 l4 : Value} {x : Nat} {stk : List Value} {h : AHp} {post : Option Value → AHp → Prop} : Ev sc 8 1 [l0, l1, l2, l3, l4] (.ref x :: stk) h post = Ev sc 8 2 [l0, l1, l2, l3, l4] (.ref x :: .ref x :: stk) h post := e_1 (e := (1, .dup, 0, 0)) (q := (2, [l0, l1, l2, l3, l4], (.ref x :: .ref x :: stk), h)) (by decide +kernel) rfl rfl
theorem s8_2 {sc : Scr} {l0 l1 l2 l3 l4 : Value} {x : Nat} {stk : List Value} {h : AHp} {post : Option Value → AHp → Prop} : Ev sc 8 2 [l0, l1, l2, l3, l4] (.ref x :: stk) h post = oB (fldv h x 0 3) (fun v => Ev sc 8 5 [l0, l1, l2, l3, l4] (v :: stk) h post) := e_get (i := 21) (r1 := 0) (r2 := 3) (by decide +kernel)
theorem s8_5 {sc : Scr} {l0 l2 l3 l4 : Value} {x : Nat} {stk : List Value} {h : AHp} {post : Option Value → AHp → Prop} : Ev sc 8 5 [l0, .ref x, l2, l3, l4] stk h post = Ev sc 8 6 [l0, .ref x, l2, l3, l4] (.ref x :: stk) h post := e_1 (e := (5, .aload_n 1, 0, 0)) (q := (6, [l0, .ref x, l2, l3, l4], (.ref x :: stk), h)) (by decide +kernel) rfl rfl
theorem s8_6 {sc : Scr} {l0 l1 l2 l3 l4 : Value} {x : Nat} {stk : List Value} {h : AHp} {post : Option Value → AHp → Prop} : Ev sc 8 6 [l0, l1, l2, l3, l4] (.ref x :: stk) h post = oB (fldv h x 0 3) (fun v => Ev sc 8 9 [l0, l1, l2, l3, l4] (v :: stk) h post) := e_get (i := 21) (r1 := 0) (r2 := 3) (by decide +kernel)
theorem s8_9 {sc : Scr} {l0 l1 l2 l3 l4 : Value} {x z : Int32} {stk : List Value} {h : AHp} {post : Option Value → AHp → Prop} : Ev sc 8 9 [l0, l1, l2, l3, l4] (.int z :: .int x :: stk) h post = Ev sc 8 10 [l0, l1, l2, l3, l4] (.int (x ||| z) :: stk) h post := e_1 (e := (9, .ior, 0, 0)) (q := (10, [l0, l1, l2, l3, l4], (.int (x ||| z) :: stk), h)) (by decide +kernel) rfl rfl
theorem s8_10 {sc : Scr} {l0 l1 l2 l3 l4 : Value} {x : Nat} {v : Int32} {stk : List Value} {h : AHp} {post : Option Value → AHp → Prop} : Ev sc 8 10 [l0, l1, l2, l3, l4] (.int v :: .ref x :: stk) h post = oB (stf h x 0 3 (.int v)) (fun h2 => Ev sc 8 13 [l0, l1, l2, l3, l4] stk h2 post) := e_put (i := 21) (r1 := 0) (r2 := 3) (by decide +kernel)
theorem s8_13 {sc : Scr} {l0 l1 l2 l3 l4 : Value}  {stk : List Value} {h : AHp} {post : Option Value → AHp → Prop} : Ev sc 8 13 [l0, l1, l2, l3, l4] stk h post = Ev sc 8 14 [l0, l1, l2, l3, l4] (.int (0) :: stk) h post := e_1 (e := (13, .iconst 0, 0, 0)) (q := (14, [l0, l1, l2, l3, l4], (.int (0) :: stk), h)) (by decide +kernel) rfl rfl
theorem s8_14 {sc : Scr} {l0 l1 l2 l3 l4 : Value} {x : Int32} {stk : List Value} {h : AHp} {post : Option Value → AHp → Prop} : Ev sc 8 14 [l0, l1, l2, l3, l4] (.int x :: stk) h post = Ev sc 8 15 [l0, l1, .int x, l3, l4] stk h post := e_1 (e := (14, .istore_n 2, 0, 0)) (q := (15, [l0, l1, .int x, l3, l4], stk, h)) (by decide +kernel) rfl rfl
theorem s8_15 {sc : Scr} {l0 l1 l2 l3 l4 : Value}  {stk : List Value} {h : AHp} {post : Option Value → AHp → Prop} : Ev sc 8 15 [l0, l1, l2, l3, l4] stk h post = Ev sc 8 16 [l0, l1, l2, l3, l4] (.int (0) :: stk) h post := e_1 (e := (15, .iconst 0, 0, 0)) (q := (16, [l0, l1, l2, l3, l4], (.int (0) :: stk), h)) (by decide +kernel) rfl rfl
theorem s8_16 {sc : Scr} {l0 l1 l2 l3 l4 : Value} {x : Int32} {stk : List Value} {h : AHp} {post : Option Value → AHp → Prop} : Ev sc 8 16 [l0, l1, l2, l3, l4] (.int x :: stk) h post = Ev sc 8 17 [l0, l1, l2, .int x, l4] stk h post := e_1 (e := (16, .istore_n 3, 0, 0)) (q := (17, [l0, l1, l2, .int x, l4], stk, h)) (by decide +kernel) rfl rfl
theorem s8_17 {sc : Scr} {l0 l1 l2 l4 : Value} {x : Int32} {stk : List Value} {h : AHp} {post : Option Value → AHp → Prop} : Ev sc 8 17 [l0, l1, l2, .int x, l4] stk h post = Ev sc 8 18 [l0, l1, l2, .int x, l4] (.int x :: stk) h post := e_1 (e := (17, .iload_n 3, 0, 0)) (q := (18, [l0, l1, l2, .int x, l4], (.int x :: stk), h)) (by decide +kernel) rfl rfl
theorem s8_18 {sc : Scr} {l0 l1 l2 l3 l4 : Value}  {stk : List Value} {h : AHp} {post : Option Value → AHp → Prop} : Ev sc 8 18 [l0, l1, l2, l3, l4] stk h post = Ev sc 8 20 [l0, l1, l2, l3, l4] (.int (8) :: stk) h post := e_1 (e := (18, .bipush 8, 0, 0)) (q := (20, [l0, l1, l2, l3, l4], (.int (8) :: stk), h)) (by decide +kernel) rfl rfl
theorem s8_20 {sc : Scr} {l0 l1 l2 l3 l4 : Value} {x z : Int32} {stk : List Value} {h : AHp} {post : Option Value → AHp → Prop} : Ev sc 8 20 [l0, l1, l2, l3, l4] (.int z :: .int x :: stk) h post = (if z ≤ x then Ev sc 8 114 [l0, l1, l2, l3, l4] stk h post else Ev sc 8 23 [l0, l1, l2, l3, l4] stk h post) := e_icmp_ge (o := 94) (r1 := 0) (r2 := 0) 114 (by decide +kernel) rfl
theorem s8_23 {sc : Scr} {l1 l2 l3 l4 : Value} {x : Nat} {stk : List Value} {h : AHp} {post : Option Value → AHp → Prop} : Ev sc 8 23 [.ref x, l1, l2, l3, l4] stk h post = Ev sc 8 24 [.ref x, l1, l2, l3, l4] (.ref x :: stk) h post := e_1 (e := (23, .aload_n 0, 0, 0)) (q := (24, [.ref x, l1, l2, l3, l4], (.ref x :: stk), h)) (by decide +kernel) rfl rfl
theorem s8_24 {sc : Scr} {l0 l1 l2 l3 l4 : Value} {x : Nat} {stk : List Value} {h : AHp} {post : Option Value → AHp → Prop} : Ev sc 8 24 [l0, l1, l2, l3, l4] (.ref x :: stk) h post = oB (fldv h x 0 0) (fun v => Ev sc 8 27 [l0, l1, l2, l3, l4] (v :: stk) h post) := e_get (i := 9) (r1 := 0) (r2 := 0) (by decide +kernel)
theorem s8_27 {sc : Scr} {l0 l1 l2 l4 : Value} {x : Int32} {stk : List Value} {h : AHp} {post : Option Value → AHp → Prop} : Ev sc 8 27 [l0, l1, l2, .int x, l4] stk h post = Ev sc 8 28 [l0, l1, l2, .int x, l4] (.int x :: stk) h post := e_1 (e := (27, .iload_n 3, 0, 0)) (q := (28, [l0, l1, l2, .int x, l4], (.int x :: stk), h)) (by decide +kernel) rfl rfl
theorem s8_28 {sc : Scr} {l0 l1 l2 l3 l4 : Value} {x : Nat} {j : Int32} {stk : List Value} {h : AHp} {post : Option Value → AHp → Prop} : Ev sc 8 28 [l0, l1, l2, l3, l4] (.int j :: .ref x :: stk) h post = oB (ldi h x j) (fun v => Ev sc 8 29 [l0, l1, l2, l3, l4] (.int v :: stk) h post) := e_ldi (r1 := 0) (r2 := 0) (by decide +kernel)
theorem s8_29 {sc : Scr} {l0 l1 l2 l3 l4 : Value} {x : Int32} {stk : List Value} {h : AHp} {post : Option Value → AHp → Prop} : Ev sc 8 29 [l0, l1, l2, l3, l4] (.int x :: stk) h post = Ev sc 8 31 [l0, l1, l2, l3, .int x] stk h post := e_1 (e := (29, .istore 4, 0, 0)) (q := (31, [l0, l1, l2, l3, .int x], stk, h)) (by decide +kernel) rfl rfl
theorem s8_31 {sc : Scr} {l1 l2 l3 l4 : Value} {x : Nat} {stk : List Value} {h : AHp} {post : Option Value → AHp → Prop} : Ev sc 8 31 [.ref x, l1, l2, l3, l4] stk h post = Ev sc 8 32 [.ref x, l1, l2, l3, l4] (.ref x :: stk) h post := e_1 (e := (31, .aload_n 0, 0, 0)) (q := (32, [.ref x, l1, l2, l3, l4], (.ref x :: stk), h)) (by decide +kernel) rfl rfl
theorem s8_32 {sc : Scr} {l0 l1 l2 l4 : Value} {x : Int32} {stk : List Value} {h : AHp} {post : Option Value → AHp → Prop} : Ev sc 8 32 [l0, l1, l2, .int x, l4] stk h post = Ev sc 8 33 [l0, l1, l2, .int x, l4] (.int x :: stk) h post := e_1 (e := (32, .iload_n 3, 0, 0)) (q := (33, [l0, l1, l2, .int x, l4], (.int x :: stk), h)) (by decide +kernel) rfl rfl
theorem s8_33 {sc : Scr} {l0 l1 l2 l3 l4 : Value} {a0 : Int32}  {x : Nat} {h : AHp} {post : Option Value → AHp → Prop} (ho : isO h x 0) : Ev sc 8 33 [l0, l1, l2, l3, l4] [.int a0, .ref x] h post = Call 5 [.ref x, .int a0] h (fun rv h2 => Ev sc 8 36 [l0, l1, l2, l3, l4] (rv.toList ++ []) h2 post) := e_v (i := 39) (z := 5) (r2 := 0) (as := [.int a0]) (rest := []) (by decide +kernel) rfl rfl (Nat.le_of_ble_eq_true rfl) rfl ho
theorem s8_36 {sc : Scr} {l0 l1 l2 l3 l4 : Value} {x : Int32} {stk : List Value} {h : AHp} {post : Option Value → AHp → Prop} : Ev sc 8 36 [l0, l1, l2, l3, l4] (.int x :: stk) h post = (if x = 0 then Ev sc 8 47 [l0, l1, l2, l3, l4] stk h post else Ev sc 8 39 [l0, l1, l2, l3, l4] stk h post) := e_if_eq (o := 11) (r1 := 0) (r2 := 0) 47 (by decide +kernel) rfl
theorem s8_39 {sc : Scr} {l1 l2 l3 l4 : Value} {x : Nat} {stk : List Value} {h : AHp} {post : Option Value → AHp → Prop} : Ev sc 8 39 [.ref x, l1, l2, l3, l4] stk h post = Ev sc 8 40 [.ref x, l1, l2, l3, l4] (.ref x :: stk) h post := e_1 (e := (39, .aload_n 0, 0, 0)) (q := (40, [.ref x, l1, l2, l3, l4], (.ref x :: stk), h)) (by decide +kernel) rfl rfl
theorem s8_40 {sc : Scr} {l0 l1 l2 l4 : Value} {x : Int32} {stk : List Value} {h : AHp} {post : Option Value → AHp → Prop} : Ev sc 8 40 [l0, l1, l2, .int x, l4] stk h post = Ev sc 8 41 [l0, l1, l2, .int x, l4] (.int x :: stk) h post := e_1 (e := (40, .iload_n 3, 0, 0)) (q := (41, [l0, l1, l2, .int x, l4], (.int x :: stk), h)) (by decide +kernel) rfl rfl
theorem s8_41 {sc : Scr} {l0 l1 l2 l3 l4 : Value} {a0 : Int32}  {x : Nat} {h : AHp} {post : Option Value → AHp → Prop} (ho : isO h x 0) : Ev sc 8 41 [l0, l1, l2, l3, l4] [.int a0, .ref x] h post = Call 3 [.ref x, .int a0] h (fun rv h2 => Ev sc 8 44 [l0, l1, l2, l3, l4] (rv.toList ++ []) h2 post) := e_v (i := 31) (z := 3) (r2 := 0) (as := [.int a0]) (rest := []) (by decide +kernel) rfl rfl (Nat.le_of_ble_eq_true rfl) rfl ho
theorem s8_44 {sc : Scr} {l0 l1 l2 l3 l4 : Value}  {stk : List Value} {h : AHp} {post : Option Value → AHp → Prop} : Ev sc 8 44 [l0, l1, l2, l3, l4] stk h post = Ev sc 8 94 [l0, l1, l2, l3, l4] stk h post := e_1 (e := (44, .goto 50, 0, 0)) (q := (94, [l0, l1, l2, l3, l4], stk, h)) (by decide +kernel) rfl rfl
theorem s8_47 {sc : Scr} {l0 l2 l3 l4 : Value} {x : Nat} {stk : List Value} {h : AHp} {post : Option Value → AHp → Prop} : Ev sc 8 47 [l0, .ref x, l2, l3, l4] stk h post = Ev sc 8 48 [l0, .ref x, l2, l3, l4] (.ref x :: stk) h post := e_1 (e := (47, .aload_n 1, 0, 0)) (q := (48, [l0, .ref x, l2, l3, l4], (.ref x :: stk), h)) (by decide +kernel) rfl rfl
theorem s8_48 {sc : Scr} {l0 l1 l2 l3 l4 : Value} {x : Nat} {stk : List Value} {h : AHp} {post : Option Value → AHp → Prop} : Ev sc 8 48 [l0, l1, l2, l3, l4] (.ref x :: stk) h post = oB (fldv h x 0 0) (fun v => Ev sc 8 51 [l0, l1, l2, l3, l4] (v :: stk) h post) := e_get (i := 9) (r1 := 0) (r2 := 0) (by decide +kernel)
theorem s8_51 {sc : Scr} {l0 l1 l2 l4 : Value} {x : Int32} {stk : List Value} {h : AHp} {post : Option Value → AHp → Prop} : Ev sc 8 51 [l0, l1, l2, .int x, l4] stk h post = Ev sc 8 52 [l0, l1, l2, .int x, l4] (.int x :: stk) h post := e_1 (e := (51, .iload_n 3, 0, 0)) (q := (52, [l0, l1, l2, .int x, l4], (.int x :: stk), h)) (by decide +kernel) rfl rfl
theorem s8_52 {sc : Scr} {l0 l1 l2 l3 l4 : Value} {x : Nat} {j : Int32} {stk : List Value} {h : AHp} {post : Option Value → AHp → Prop} : Ev sc 8 52 [l0, l1, l2, l3, l4] (.int j :: .ref x :: stk) h post = oB (ldi h x j) (fun v => Ev sc 8 53 [l0, l1, l2, l3, l4] (.int v :: stk) h post) := e_ldi (r1 := 0) (r2 := 0) (by decide +kernel)
theorem s8_53 {sc : Scr} {l0 l1 l2 l3 : Value} {x : Int32} {stk : List Value} {h : AHp} {post : Option Value → AHp → Prop} : Ev sc 8 53 [l0, l1, l2, l3, .int x] stk h post = Ev sc 8 55 [l0, l1, l2, l3, .int x] (.int x :: stk) h post := e_1 (e := (53, .iload 4, 0, 0)) (q := (55, [l0, l1, l2, l3, .int x], (.int x :: stk), h)) (by decide +kernel) rfl rfl
theorem s8_55 {sc : Scr} {l0 l1 l2 l3 l4 : Value} {x z : Int32} {stk : List Value} {h : AHp} {post : Option Value → AHp → Prop} : Ev sc 8 55 [l0, l1, l2, l3, l4] (.int z :: .int x :: stk) h post = (if x ≤ z then Ev sc 8 94 [l0, l1, l2, l3, l4] stk h post else Ev sc 8 58 [l0, l1, l2, l3, l4] stk h post) := e_icmp_le (o := 39) (r1 := 0) (r2 := 0) 94 (by decide +kernel) rfl
theorem s8_58 {sc : Scr} {l1 l2 l3 l4 : Value} {x : Nat} {stk : List Value} {h : AHp} {post : Option Value → AHp → Prop} : Ev sc 8 58 [.ref x, l1, l2, l3, l4] stk h post = Ev sc 8 59 [.ref x, l1, l2, l3, l4] (.ref x :: stk) h post := e_1 (e := (58, .aload_n 0, 0, 0)) (q := (59, [.ref x, l1, l2, l3, l4], (.ref x :: stk), h)) (by decide +kernel) rfl rfl
theorem s8_59 {sc : Scr} {l0 l1 l2 l3 l4 : Value} {x : Nat} {stk : List Value} {h : AHp} {post : Option Value → AHp → Prop} : Ev sc 8 59 [l0, l1, l2, l3, l4] (.ref x :: stk) h post = oB (fldv h x 0 0) (fun v => Ev sc 8 62 [l0, l1, l2, l3, l4] (v :: stk) h post) := e_get (i := 9) (r1 := 0) (r2 := 0) (by decide +kernel)
theorem s8_62 {sc : Scr} {l0 l1 l2 l4 : Value} {x : Int32} {stk : List Value} {h : AHp} {post : Option Value → AHp → Prop} : Ev sc 8 62 [l0, l1, l2, .int x, l4] stk h post = Ev sc 8 63 [l0, l1, l2, .int x, l4] (.int x :: stk) h post := e_1 (e := (62, .iload_n 3, 0, 0)) (q := (63, [l0, l1, l2, .int x, l4], (.int x :: stk), h)) (by decide +kernel) rfl rfl
theorem s8_63 {sc : Scr} {l0 l2 l3 l4 : Value} {x : Nat} {stk : List Value} {h : AHp} {post : Option Value → AHp → Prop} : Ev sc 8 63 [l0, .ref x, l2, l3, l4] stk h post = Ev sc 8 64 [l0, .ref x, l2, l3, l4] (.ref x :: stk) h post := e_1 (e := (63, .aload_n 1, 0, 0)) (q := (64, [l0, .ref x, l2, l3, l4], (.ref x :: stk), h)) (by decide +kernel) rfl rfl
theorem s8_64 {sc : Scr} {l0 l1 l2 l3 l4 : Value} {x : Nat} {stk : List Value} {h : AHp} {post : Option Value → AHp → Prop} : Ev sc 8 64 [l0, l1, l2, l3, l4] (.ref x :: stk) h post = oB (fldv h x 0 0) (fun v => Ev sc 8 67 [l0, l1, l2, l3, l4] (v :: stk) h post) := e_get (i := 9) (r1 := 0) (r2 := 0) (by decide +kernel)
theorem s8_67 {sc : Scr} {l0 l1 l2 l4 : Value} {x : Int32} {stk : List Value} {h : AHp} {post : Option Value → AHp → Prop} : Ev sc 8 67 [l0, l1, l2, .int x, l4] stk h post = Ev sc 8 68 [l0, l1, l2, .int x, l4] (.int x :: stk) h post := e_1 (e := (67, .iload_n 3, 0, 0)) (q := (68, [l0, l1, l2, .int x, l4], (.int x :: stk), h)) (by decide +kernel) rfl rfl
theorem s8_68 {sc : Scr} {l0 l1 l2 l3 l4 : Value} {x : Nat} {j : Int32} {stk : List Value} {h : AHp} {post : Option Value → AHp → Prop} : Ev sc 8 68 [l0, l1, l2, l3, l4] (.int j :: .ref x :: stk) h post = oB (ldi h x j) (fun v => Ev sc 8 69 [l0, l1, l2, l3, l4] (.int v :: stk) h post) := e_ldi (r1 := 0) (r2 := 0) (by decide +kernel)
theorem s8_69 {sc : Scr} {l0 l1 l2 l3 l4 : Value} {x : Nat} {j v : Int32} {stk : List Value} {h : AHp} {post : Option Value → AHp → Prop} : Ev sc 8 69 [l0, l1, l2, l3, l4] (.int v :: .int j :: .ref x :: stk) h post = oB (sti h x j v) (fun h2 => Ev sc 8 70 [l0, l1, l2, l3, l4] stk h2 post) := e_sti (r1 := 0) (r2 := 0) (by decide +kernel)
theorem s8_70 {sc : Scr} {l1 l2 l3 l4 : Value} {x : Nat} {stk : List Value} {h : AHp} {post : Option Value → AHp → Prop} : Ev sc 8 70 [.ref x, l1, l2, l3, l4] stk h post = Ev sc 8 71 [.ref x, l1, l2, l3, l4] (.ref x :: stk) h post := e_1 (e := (70, .aload_n 0, 0, 0)) (q := (71, [.ref x, l1, l2, l3, l4], (.ref x :: stk), h)) (by decide +kernel) rfl rfl
theorem s8_71 {sc : Scr} {l0 l1 l2 l3 l4 : Value} {x : Nat} {stk : List Value} {h : AHp} {post : Option Value → AHp → Prop} : Ev sc 8 71 [l0, l1, l2, l3, l4] (.ref x :: stk) h post = oB (fldv h x 0 1) (fun v => Ev sc 8 74 [l0, l1, l2, l3, l4] (v :: stk) h post) := e_get (i := 15) (r1 := 0) (r2 := 1) (by decide +kernel)
theorem s8_74 {sc : Scr} {l0 l1 l2 l4 : Value} {x : Int32} {stk : List Value} {h : AHp} {post : Option Value → AHp → Prop} : Ev sc 8 74 [l0, l1, l2, .int x, l4] stk h post = Ev sc 8 75 [l0, l1, l2, .int x, l4] (.int x :: stk) h post := e_1 (e := (74, .iload_n 3, 0, 0)) (q := (75, [l0, l1, l2, .int x, l4], (.int x :: stk), h)) (by decide +kernel) rfl rfl
theorem s8_75 {sc : Scr} {l0 l2 l3 l4 : Value} {x : Nat} {stk : List Value} {h : AHp} {post : Option Value → AHp → Prop} : Ev sc 8 75 [l0, .ref x, l2, l3, l4] stk h post = Ev sc 8 76 [l0, .ref x, l2, l3, l4] (.ref x :: stk) h post := e_1 (e := (75, .aload_n 1, 0, 0)) (q := (76, [l0, .ref x, l2, l3, l4], (.ref x :: stk), h)) (by decide +kernel) rfl rfl
theorem s8_76 {sc : Scr} {l0 l1 l2 l3 l4 : Value} {x : Nat} {stk : List Value} {h : AHp} {post : Option Value → AHp → Prop} : Ev sc 8 76 [l0, l1, l2, l3, l4] (.ref x :: stk) h post = oB (fldv h x 0 1) (fun v => Ev sc 8 79 [l0, l1, l2, l3, l4] (v :: stk) h post) := e_get (i := 15) (r1 := 0) (r2 := 1) (by decide +kernel)
theorem s8_79 {sc : Scr} {l0 l1 l2 l4 : Value} {x : Int32} {stk : List Value} {h : AHp} {post : Option Value → AHp → Prop} : Ev sc 8 79 [l0, l1, l2, .int x, l4] stk h post = Ev sc 8 80 [l0, l1, l2, .int x, l4] (.int x :: stk) h post := e_1 (e := (79, .iload_n 3, 0, 0)) (q := (80, [l0, l1, l2, .int x, l4], (.int x :: stk), h)) (by decide +kernel) rfl rfl
theorem s8_80 {sc : Scr} {l0 l1 l2 l3 l4 : Value} {x : Nat} {j : Int32} {stk : List Value} {h : AHp} {post : Option Value → AHp → Prop} : Ev sc 8 80 [l0, l1, l2, l3, l4] (.int j :: .ref x :: stk) h post = oB (ldi h x j) (fun v => Ev sc 8 81 [l0, l1, l2, l3, l4] (.int v :: stk) h post) := e_ldi (r1 := 0) (r2 := 0) (by decide +kernel)
theorem s8_81 {sc : Scr} {l0 l1 l2 l3 l4 : Value} {x : Nat} {j v : Int32} {stk : List Value} {h : AHp} {post : Option Value → AHp → Prop} : Ev sc 8 81 [l0, l1, l2, l3, l4] (.int v :: .int j :: .ref x :: stk) h post = oB (sti h x j v) (fun h2 => Ev sc 8 82 [l0, l1, l2, l3, l4] stk h2 post) := e_sti (r1 := 0) (r2 := 0) (by decide +kernel)
theorem s8_82 {sc : Scr} {l1 l2 l3 l4 : Value} {x : Nat} {stk : List Value} {h : AHp} {post : Option Value → AHp → Prop} : Ev sc 8 82 [.ref x, l1, l2, l3, l4] stk h post = Ev sc 8 83 [.ref x, l1, l2, l3, l4] (.ref x :: stk) h post := e_1 (e := (82, .aload_n 0, 0, 0)) (q := (83, [.ref x, l1, l2, l3, l4], (.ref x :: stk), h)) (by decide +kernel) rfl rfl
theorem s8_83 {sc : Scr} {l0 l1 l2 l3 l4 : Value} {x : Nat} {stk : List Value} {h : AHp} {post : Option Value → AHp → Prop} : Ev sc 8 83 [l0, l1, l2, l3, l4] (.ref x :: stk) h post = oB (fldv h x 0 2) (fun v => Ev sc 8 86 [l0, l1, l2, l3, l4] (v :: stk) h post) := e_get (i := 18) (r1 := 0) (r2 := 2) (by decide +kernel)
theorem s8_86 {sc : Scr} {l0 l1 l2 l4 : Value} {x : Int32} {stk : List Value} {h : AHp} {post : Option Value → AHp → Prop} : Ev sc 8 86 [l0, l1, l2, .int x, l4] stk h post = Ev sc 8 87 [l0, l1, l2, .int x, l4] (.int x :: stk) h post := e_1 (e := (86, .iload_n 3, 0, 0)) (q := (87, [l0, l1, l2, .int x, l4], (.int x :: stk), h)) (by decide +kernel) rfl rfl
theorem s8_87 {sc : Scr} {l0 l2 l3 l4 : Value} {x : Nat} {stk : List Value} {h : AHp} {post : Option Value → AHp → Prop} : Ev sc 8 87 [l0, .ref x, l2, l3, l4] stk h post = Ev sc 8 88 [l0, .ref x, l2, l3, l4] (.ref x :: stk) h post := e_1 (e := (87, .aload_n 1, 0, 0)) (q := (88, [l0, .ref x, l2, l3, l4], (.ref x :: stk), h)) (by decide +kernel) rfl rfl
theorem s8_88 {sc : Scr} {l0 l1 l2 l3 l4 : Value} {x : Nat} {stk : List Value} {h : AHp} {post : Option Value → AHp → Prop} : Ev sc 8 88 [l0, l1, l2, l3, l4] (.ref x :: stk) h post = oB (fldv h x 0 2) (fun v => Ev sc 8 91 [l0, l1, l2, l3, l4] (v :: stk) h post) := e_get (i := 18) (r1 := 0) (r2 := 2) (by decide +kernel)
theorem s8_91 {sc : Scr} {l0 l1 l2 l4 : Value} {x : Int32} {stk : List Value} {h : AHp} {post : Option Value → AHp → Prop} : Ev sc 8 91 [l0, l1, l2, .int x, l4] stk h post = Ev sc 8 92 [l0, l1, l2, .int x, l4] (.int x :: stk) h post := e_1 (e := (91, .iload_n 3, 0, 0)) (q := (92, [l0, l1, l2, .int x, l4], (.int x :: stk), h)) (by decide +kernel) rfl rfl
theorem s8_92 {sc : Scr} {l0 l1 l2 l3 l4 : Value} {x : Nat} {j : Int32} {stk : List Value} {h : AHp} {post : Option Value → AHp → Prop} : Ev sc 8 92 [l0, l1, l2, l3, l4] (.int j :: .ref x :: stk) h post = oB (ldi h x j) (fun v => Ev sc 8 93 [l0, l1, l2, l3, l4] (.int v :: stk) h post) := e_ldi (r1 := 0) (r2 := 0) (by decide +kernel)
theorem s8_93 {sc : Scr} {l0 l1 l2 l3 l4 : Value} {x : Nat} {j v : Int32} {stk : List Value} {h : AHp} {post : Option Value → AHp → Prop} : Ev sc 8 93 [l0, l1, l2, l3, l4] (.int v :: .int j :: .ref x :: stk) h post = oB (sti h x j v) (fun h2 => Ev sc 8 94 [l0, l1, l2, l3, l4] stk h2 post) := e_sti (r1 := 0) (r2 := 0) (by decide +kernel)
theorem s8_94 {sc : Scr} {l1 l2 l3 l4 : Value} {x : Nat} {stk : List Value} {h : AHp} {post : Option Value → AHp → Prop} : Ev sc 8 94 [.ref x, l1, l2, l3, l4] stk h post = Ev sc 8 95 [.ref x, l1, l2, l3, l4] (.ref x :: stk) h post := e_1 (e := (94, .aload_n 0, 0, 0)) (q := (95, [.ref x, l1, l2, l3, l4], (.ref x :: stk), h)) (by decide +kernel) rfl rfl
theorem s8_95 {sc : Scr} {l0 l1 l2 l3 l4 : Value} {x : Nat} {stk : List Value} {h : AHp} {post : Option Value → AHp → Prop} : Ev sc 8 95 [l0, l1, l2, l3, l4] (.ref x :: stk) h post = oB (fldv h x 0 0) (fun v => Ev sc 8 98 [l0, l1, l2, l3, l4] (v :: stk) h post) := e_get (i := 9) (r1 := 0) (r2 := 0) (by decide +kernel)
theorem s8_98 {sc : Scr} {l0 l1 l2 l4 : Value} {x : Int32} {stk : List Value} {h : AHp} {post : Option Value → AHp → Prop} : Ev sc 8 98 [l0, l1, l2, .int x, l4] stk h post = Ev sc 8 99 [l0, l1, l2, .int x, l4] (.int x :: stk) h post := e_1 (e := (98, .iload_n 3, 0, 0)) (q := (99, [l0, l1, l2, .int x, l4], (.int x :: stk), h)) (by decide +kernel) rfl rfl
theorem s8_99 {sc : Scr} {l0 l1 l2 l3 l4 : Value} {x : Nat} {j : Int32} {stk : List Value} {h : AHp} {post : Option Value → AHp → Prop} : Ev sc 8 99 [l0, l1, l2, l3, l4] (.int j :: .ref x :: stk) h post = oB (ldi h x j) (fun v => Ev sc 8 100 [l0, l1, l2, l3, l4] (.int v :: stk) h post) := e_ldi (r1 := 0) (r2 := 0) (by decide +kernel)
theorem s8_100 {sc : Scr} {l0 l1 l2 l3 : Value} {x : Int32} {stk : List Value} {h : AHp} {post : Option Value → AHp → Prop} : Ev sc 8 100 [l0, l1, l2, l3, .int x] stk h post = Ev sc 8 102 [l0, l1, l2, l3, .int x] (.int x :: stk) h post := e_1 (e := (100, .iload 4, 0, 0)) (q := (102, [l0, l1, l2, l3, .int x], (.int x :: stk), h)) (by decide +kernel) rfl rfl
theorem s8_102 {sc : Scr} {l0 l1 l2 l3 l4 : Value} {x z : Int32} {stk : List Value} {h : AHp} {post : Option Value → AHp → Prop} : Ev sc 8 102 [l0, l1, l2, l3, l4] (.int z :: .int x :: stk) h post = (if x = z then Ev sc 8 108 [l0, l1, l2, l3, l4] stk h post else Ev sc 8 105 [l0, l1, l2, l3, l4] stk h post) := e_icmp_eq (o := 6) (r1 := 0) (r2 := 0) 108 (by decide +kernel) rfl
theorem s8_105 {sc : Scr} {l0 l1 l3 l4 : Value} {x : Int32} {stk : List Value} {h : AHp} {post : Option Value → AHp → Prop} : Ev sc 8 105 [l0, l1, .int x, l3, l4] stk h post = Ev sc 8 108 [l0, l1, .int (x + 1), l3, l4] stk h post := e_1 (e := (105, .iinc 2 1, 0, 0)) (q := (108, [l0, l1, .int (x + 1), l3, l4], stk, h)) (by decide +kernel) rfl rfl
theorem s8_108 {sc : Scr} {l0 l1 l2 l4 : Value} {x : Int32} {stk : List Value} {h : AHp} {post : Option Value → AHp → Prop} : Ev sc 8 108 [l0, l1, l2, .int x, l4] stk h post = Ev sc 8 111 [l0, l1, l2, .int (x + 1), l4] stk h post := e_1 (e := (108, .iinc 3 1, 0, 0)) (q := (111, [l0, l1, l2, .int (x + 1), l4], stk, h)) (by decide +kernel) rfl rfl
theorem s8_111 {sc : Scr} {l0 l1 l2 l3 l4 : Value}  {stk : List Value} {h : AHp} {post : Option Value → AHp → Prop} : Ev sc 8 111 [l0, l1, l2, l3, l4] stk h post = Ev sc 8 17 [l0, l1, l2, l3, l4] stk h post := e_1 (e := (111, .goto (-94), 0, 0)) (q := (17, [l0, l1, l2, l3, l4], stk, h)) (by decide +kernel) rfl rfl
theorem s8_114 {sc : Scr} {l0 l1 l3 l4 : Value} {x : Int32} {stk : List Value} {h : AHp} {post : Option Value → AHp → Prop} : Ev sc 8 114 [l0, l1, .int x, l3, l4] stk h post = Ev sc 8 115 [l0, l1, .int x, l3, l4] (.int x :: stk) h post := e_1 (e := (114, .iload_n 2, 0, 0)) (q := (115, [l0, l1, .int x, l3, l4], (.int x :: stk), h)) (by decide +kernel) rfl rfl
theorem s8_115 {sc : Scr} {l0 l1 l2 l3 l4 : Value} {x : Int32} {h : AHp} {post : Option Value → AHp → Prop} : Ev sc 8 115 [l0, l1, l2, l3, l4] [.int x] h post = post (some (.int x)) h := e_r (e := (115, .ireturn, 0, 0)) (by decide +kernel) rfl rfl
-- 9 X0_knowsTheSameAs (LPartedSums$Knowledge;)Z
theorem s9_e {a0 : Nat} {a1 : Nat} {h : AHp} {post : Option Value → AHp → Prop} : Call 9 [.ref a0, .ref a1] h post = Ev none 9 0 [.ref a0, .ref a1, .long 0] [] h post := rfl
theorem s9_0 {sc : Scr} {l0 l1 l2 : Value}  {stk : List Value} {h : AHp} {post : Option Value → AHp → Prop} : Ev sc 9 0 [l0, l1, l2] stk h post = Ev sc 9 1 [l0, l1, l2] (.int (0) :: stk) h post := e_1 (e := (0, .iconst 0, 0, 0)) (q := (1, [l0, l1, l2], (.int (0) :: stk), h)) (by decide +kernel) rfl rfl
theorem s9_1 {sc : Scr} {l0 l1 l2 : Value} {x : Int32} {stk : List Value} {h : AHp} {post : Option Value → AHp → Prop} : Ev sc 9 1 [l0, l1, l2] (.int x :: stk) h post = Ev sc 9 2 [l0, l1, .int x] stk h post := e_1 (e := (1, .istore_n 2, 0, 0)) (q := (2, [l0, l1, .int x], stk, h)) (by decide +kernel) rfl rfl
theorem s9_2 {sc : Scr} {l0 l1 : Value} {x : Int32} {stk : List Value} {h : AHp} {post : Option Value → AHp → Prop} : Ev sc 9 2 [l0, l1, .int x] stk h post = Ev sc 9 3 [l0, l1, .int x] (.int x :: stk) h post := e_1 (e := (2, .iload_n 2, 0, 0)) (q := (3, [l0, l1, .int x], (.int x :: stk), h)) (by decide +kernel) rfl rfl
theorem s9_3 {sc : Scr} {l0 l1 l2 : Value}  {stk : List Value} {h : AHp} {post : Option Value → AHp → Prop} : Ev sc 9 3 [l0, l1, l2] stk h post = Ev sc 9 5 [l0, l1, l2] (.int (8) :: stk) h post := e_1 (e := (3, .bipush 8, 0, 0)) (q := (5, [l0, l1, l2], (.int (8) :: stk), h)) (by decide +kernel) rfl rfl
theorem s9_5 {sc : Scr} {l0 l1 l2 : Value} {x z : Int32} {stk : List Value} {h : AHp} {post : Option Value → AHp → Prop} : Ev sc 9 5 [l0, l1, l2] (.int z :: .int x :: stk) h post = (if z ≤ x then Ev sc 9 31 [l0, l1, l2] stk h post else Ev sc 9 8 [l0, l1, l2] stk h post) := e_icmp_ge (o := 26) (r1 := 0) (r2 := 0) 31 (by decide +kernel) rfl
theorem s9_8 {sc : Scr} {l1 l2 : Value} {x : Nat} {stk : List Value} {h : AHp} {post : Option Value → AHp → Prop} : Ev sc 9 8 [.ref x, l1, l2] stk h post = Ev sc 9 9 [.ref x, l1, l2] (.ref x :: stk) h post := e_1 (e := (8, .aload_n 0, 0, 0)) (q := (9, [.ref x, l1, l2], (.ref x :: stk), h)) (by decide +kernel) rfl rfl
theorem s9_9 {sc : Scr} {l0 l1 l2 : Value} {x : Nat} {stk : List Value} {h : AHp} {post : Option Value → AHp → Prop} : Ev sc 9 9 [l0, l1, l2] (.ref x :: stk) h post = oB (fldv h x 0 0) (fun v => Ev sc 9 12 [l0, l1, l2] (v :: stk) h post) := e_get (i := 9) (r1 := 0) (r2 := 0) (by decide +kernel)
theorem s9_12 {sc : Scr} {l0 l1 : Value} {x : Int32} {stk : List Value} {h : AHp} {post : Option Value → AHp → Prop} : Ev sc 9 12 [l0, l1, .int x] stk h post = Ev sc 9 13 [l0, l1, .int x] (.int x :: stk) h post := e_1 (e := (12, .iload_n 2, 0, 0)) (q := (13, [l0, l1, .int x], (.int x :: stk), h)) (by decide +kernel) rfl rfl
theorem s9_13 {sc : Scr} {l0 l1 l2 : Value} {x : Nat} {j : Int32} {stk : List Value} {h : AHp} {post : Option Value → AHp → Prop} : Ev sc 9 13 [l0, l1, l2] (.int j :: .ref x :: stk) h post = oB (ldi h x j) (fun v => Ev sc 9 14 [l0, l1, l2] (.int v :: stk) h post) := e_ldi (r1 := 0) (r2 := 0) (by decide +kernel)
theorem s9_14 {sc : Scr} {l0 l2 : Value} {x : Nat} {stk : List Value} {h : AHp} {post : Option Value → AHp → Prop} : Ev sc 9 14 [l0, .ref x, l2] stk h post = Ev sc 9 15 [l0, .ref x, l2] (.ref x :: stk) h post := e_1 (e := (14, .aload_n 1, 0, 0)) (q := (15, [l0, .ref x, l2], (.ref x :: stk), h)) (by decide +kernel) rfl rfl
theorem s9_15 {sc : Scr} {l0 l1 l2 : Value} {x : Nat} {stk : List Value} {h : AHp} {post : Option Value → AHp → Prop} : Ev sc 9 15 [l0, l1, l2] (.ref x :: stk) h post = oB (fldv h x 0 0) (fun v => Ev sc 9 18 [l0, l1, l2] (v :: stk) h post) := e_get (i := 9) (r1 := 0) (r2 := 0) (by decide +kernel)
theorem s9_18 {sc : Scr} {l0 l1 : Value} {x : Int32} {stk : List Value} {h : AHp} {post : Option Value → AHp → Prop} : Ev sc 9 18 [l0, l1, .int x] stk h post = Ev sc 9 19 [l0, l1, .int x] (.int x :: stk) h post := e_1 (e := (18, .iload_n 2, 0, 0)) (q := (19, [l0, l1, .int x], (.int x :: stk), h)) (by decide +kernel) rfl rfl
theorem s9_19 {sc : Scr} {l0 l1 l2 : Value} {x : Nat} {j : Int32} {stk : List Value} {h : AHp} {post : Option Value → AHp → Prop} : Ev sc 9 19 [l0, l1, l2] (.int j :: .ref x :: stk) h post = oB (ldi h x j) (fun v => Ev sc 9 20 [l0, l1, l2] (.int v :: stk) h post) := e_ldi (r1 := 0) (r2 := 0) (by decide +kernel)
theorem s9_20 {sc : Scr} {l0 l1 l2 : Value} {x z : Int32} {stk : List Value} {h : AHp} {post : Option Value → AHp → Prop} : Ev sc 9 20 [l0, l1, l2] (.int z :: .int x :: stk) h post = (if x = z then Ev sc 9 25 [l0, l1, l2] stk h post else Ev sc 9 23 [l0, l1, l2] stk h post) := e_icmp_eq (o := 5) (r1 := 0) (r2 := 0) 25 (by decide +kernel) rfl
theorem s9_23 {sc : Scr} {l0 l1 l2 : Value}  {stk : List Value} {h : AHp} {post : Option Value → AHp → Prop} : Ev sc 9 23 [l0, l1, l2] stk h post = Ev sc 9 24 [l0, l1, l2] (.int (0) :: stk) h post := e_1 (e := (23, .iconst 0, 0, 0)) (q := (24, [l0, l1, l2], (.int (0) :: stk), h)) (by decide +kernel) rfl rfl
theorem s9_24 {sc : Scr} {l0 l1 l2 : Value} {x : Int32} {h : AHp} {post : Option Value → AHp → Prop} : Ev sc 9 24 [l0, l1, l2] [.int x] h post = ((x = 0 ∨ x = 1) ∧ post (some (.int x)) h) := e_retb (r1 := 0) (r2 := 0) (by decide +kernel) rfl
theorem s9_25 {sc : Scr} {l0 l1 : Value} {x : Int32} {stk : List Value} {h : AHp} {post : Option Value → AHp → Prop} : Ev sc 9 25 [l0, l1, .int x] stk h post = Ev sc 9 28 [l0, l1, .int (x + 1)] stk h post := e_1 (e := (25, .iinc 2 1, 0, 0)) (q := (28, [l0, l1, .int (x + 1)], stk, h)) (by decide +kernel) rfl rfl
theorem s9_28 {sc : Scr} {l0 l1 l2 : Value}  {stk : List Value} {h : AHp} {post : Option Value → AHp → Prop} : Ev sc 9 28 [l0, l1, l2] stk h post = Ev sc 9 2 [l0, l1, l2] stk h post := e_1 (e := (28, .goto (-26), 0, 0)) (q := (2, [l0, l1, l2], stk, h)) (by decide +kernel) rfl rfl
theorem s9_31 {sc : Scr} {l1 l2 : Value} {x : Nat} {stk : List Value} {h : AHp} {post : Option Value → AHp → Prop} : Ev sc 9 31 [.ref x, l1, l2] stk h post = Ev sc 9 32 [.ref x, l1, l2] (.ref x :: stk) h post := e_1 (e := (31, .aload_n 0, 0, 0)) (q := (32, [.ref x, l1, l2], (.ref x :: stk), h)) (by decide +kernel) rfl rfl
theorem s9_32 {sc : Scr} {l0 l1 l2 : Value} {x : Nat} {stk : List Value} {h : AHp} {post : Option Value → AHp → Prop} : Ev sc 9 32 [l0, l1, l2] (.ref x :: stk) h post = oB (fldv h x 0 3) (fun v => Ev sc 9 35 [l0, l1, l2] (v :: stk) h post) := e_get (i := 21) (r1 := 0) (r2 := 3) (by decide +kernel)
theorem s9_35 {sc : Scr} {l0 l2 : Value} {x : Nat} {stk : List Value} {h : AHp} {post : Option Value → AHp → Prop} : Ev sc 9 35 [l0, .ref x, l2] stk h post = Ev sc 9 36 [l0, .ref x, l2] (.ref x :: stk) h post := e_1 (e := (35, .aload_n 1, 0, 0)) (q := (36, [l0, .ref x, l2], (.ref x :: stk), h)) (by decide +kernel) rfl rfl
theorem s9_36 {sc : Scr} {l0 l1 l2 : Value} {x : Nat} {stk : List Value} {h : AHp} {post : Option Value → AHp → Prop} : Ev sc 9 36 [l0, l1, l2] (.ref x :: stk) h post = oB (fldv h x 0 3) (fun v => Ev sc 9 39 [l0, l1, l2] (v :: stk) h post) := e_get (i := 21) (r1 := 0) (r2 := 3) (by decide +kernel)
theorem s9_39 {sc : Scr} {l0 l1 l2 : Value} {x z : Int32} {stk : List Value} {h : AHp} {post : Option Value → AHp → Prop} : Ev sc 9 39 [l0, l1, l2] (.int z :: .int x :: stk) h post = (if ¬ x = z then Ev sc 9 46 [l0, l1, l2] stk h post else Ev sc 9 42 [l0, l1, l2] stk h post) := e_icmp_ne (o := 7) (r1 := 0) (r2 := 0) 46 (by decide +kernel) rfl
theorem s9_42 {sc : Scr} {l0 l1 l2 : Value}  {stk : List Value} {h : AHp} {post : Option Value → AHp → Prop} : Ev sc 9 42 [l0, l1, l2] stk h post = Ev sc 9 43 [l0, l1, l2] (.int (1) :: stk) h post := e_1 (e := (42, .iconst 1, 0, 0)) (q := (43, [l0, l1, l2], (.int (1) :: stk), h)) (by decide +kernel) rfl rfl
theorem s9_43 {sc : Scr} {l0 l1 l2 : Value}  {stk : List Value} {h : AHp} {post : Option Value → AHp → Prop} : Ev sc 9 43 [l0, l1, l2] stk h post = Ev sc 9 47 [l0, l1, l2] stk h post := e_1 (e := (43, .goto 4, 0, 0)) (q := (47, [l0, l1, l2], stk, h)) (by decide +kernel) rfl rfl
theorem s9_46 {sc : Scr} {l0 l1 l2 : Value}  {stk : List Value} {h : AHp} {post : Option Value → AHp → Prop} : Ev sc 9 46 [l0, l1, l2] stk h post = Ev sc 9 47 [l0, l1, l2] (.int (0) :: stk) h post := e_1 (e := (46, .iconst 0, 0, 0)) (q := (47, [l0, l1, l2], (.int (0) :: stk), h)) (by decide +kernel) rfl rfl
theorem s9_47 {sc : Scr} {l0 l1 l2 : Value} {x : Int32} {h : AHp} {post : Option Value → AHp → Prop} : Ev sc 9 47 [l0, l1, l2] [.int x] h post = ((x = 0 ∨ x = 1) ∧ post (some (.int x)) h) := e_retb (r1 := 0) (r2 := 0) (by decide +kernel) rfl
-- 10 X0_allAdded ()I
theorem s10_e {a0 : Nat} {h : AHp} {post : Option Value → AHp → Prop} : Call 10 [.ref a0] h post = Ev none 10 0 [.ref a0, .long 0, .long 0] [] h post := rfl
theorem s10_0 {sc : Scr} {l0 l1 l2 : Value}  {stk : List Value} {h : AHp} {post : Option Value → AHp → Prop} : Ev sc 10 0 [l0, l1, l2] stk h post = Ev sc 10 1 [l0, l1, l2] (.int (0) :: stk) h post := e_1 (e := (0, .iconst 0, 0, 0)) (q := (1, [l0, l1, l2], (.int (0) :: stk), h)) (by decide +kernel) rfl rfl
theorem s10_1 {sc : Scr} {l0 l1 l2 : Value} {x : Int32} {stk : List Value} {h : AHp} {post : Option Value → AHp → Prop} : Ev sc 10 1 [l0, l1, l2] (.int x :: stk) h post = Ev sc 10 2 [l0, .int x, l2] stk h post := e_1 (e := (1, .istore_n 1, 0, 0)) (q := (2, [l0, .int x, l2], stk, h)) (by decide +kernel) rfl rfl
theorem s10_2 {sc : Scr} {l0 l1 l2 : Value}  {stk : List Value} {h : AHp} {post : Option Value → AHp → Prop} : Ev sc 10 2 [l0, l1, l2] stk h post = Ev sc 10 3 [l0, l1, l2] (.int (0) :: stk) h post := e_1 (e := (2, .iconst 0, 0, 0)) (q := (3, [l0, l1, l2], (.int (0) :: stk), h)) (by decide +kernel) rfl rfl
theorem s10_3 {sc : Scr} {l0 l1 l2 : Value} {x : Int32} {stk : List Value} {h : AHp} {post : Option Value → AHp → Prop} : Ev sc 10 3 [l0, l1, l2] (.int x :: stk) h post = Ev sc 10 4 [l0, l1, .int x] stk h post := e_1 (e := (3, .istore_n 2, 0, 0)) (q := (4, [l0, l1, .int x], stk, h)) (by decide +kernel) rfl rfl
theorem s10_4 {sc : Scr} {l0 l1 : Value} {x : Int32} {stk : List Value} {h : AHp} {post : Option Value → AHp → Prop} : Ev sc 10 4 [l0, l1, .int x] stk h post = Ev sc 10 5 [l0, l1, .int x] (.int x :: stk) h post := e_1 (e := (4, .iload_n 2, 0, 0)) (q := (5, [l0, l1, .int x], (.int x :: stk), h)) (by decide +kernel) rfl rfl
theorem s10_5 {sc : Scr} {l0 l1 l2 : Value}  {stk : List Value} {h : AHp} {post : Option Value → AHp → Prop} : Ev sc 10 5 [l0, l1, l2] stk h post = Ev sc 10 7 [l0, l1, l2] (.int (8) :: stk) h post := e_1 (e := (5, .bipush 8, 0, 0)) (q := (7, [l0, l1, l2], (.int (8) :: stk), h)) (by decide +kernel) rfl rfl
theorem s10_7 {sc : Scr} {l0 l1 l2 : Value} {x z : Int32} {stk : List Value} {h : AHp} {post : Option Value → AHp → Prop} : Ev sc 10 7 [l0, l1, l2] (.int z :: .int x :: stk) h post = (if z ≤ x then Ev sc 10 25 [l0, l1, l2] stk h post else Ev sc 10 10 [l0, l1, l2] stk h post) := e_icmp_ge (o := 18) (r1 := 0) (r2 := 0) 25 (by decide +kernel) rfl
theorem s10_10 {sc : Scr} {l0 l2 : Value} {x : Int32} {stk : List Value} {h : AHp} {post : Option Value → AHp → Prop} : Ev sc 10 10 [l0, .int x, l2] stk h post = Ev sc 10 11 [l0, .int x, l2] (.int x :: stk) h post := e_1 (e := (10, .iload_n 1, 0, 0)) (q := (11, [l0, .int x, l2], (.int x :: stk), h)) (by decide +kernel) rfl rfl
theorem s10_11 {sc : Scr} {l1 l2 : Value} {x : Nat} {stk : List Value} {h : AHp} {post : Option Value → AHp → Prop} : Ev sc 10 11 [.ref x, l1, l2] stk h post = Ev sc 10 12 [.ref x, l1, l2] (.ref x :: stk) h post := e_1 (e := (11, .aload_n 0, 0, 0)) (q := (12, [.ref x, l1, l2], (.ref x :: stk), h)) (by decide +kernel) rfl rfl
theorem s10_12 {sc : Scr} {l0 l1 l2 : Value} {x : Nat} {stk : List Value} {h : AHp} {post : Option Value → AHp → Prop} : Ev sc 10 12 [l0, l1, l2] (.ref x :: stk) h post = oB (fldv h x 0 1) (fun v => Ev sc 10 15 [l0, l1, l2] (v :: stk) h post) := e_get (i := 15) (r1 := 0) (r2 := 1) (by decide +kernel)
theorem s10_15 {sc : Scr} {l0 l1 : Value} {x : Int32} {stk : List Value} {h : AHp} {post : Option Value → AHp → Prop} : Ev sc 10 15 [l0, l1, .int x] stk h post = Ev sc 10 16 [l0, l1, .int x] (.int x :: stk) h post := e_1 (e := (15, .iload_n 2, 0, 0)) (q := (16, [l0, l1, .int x], (.int x :: stk), h)) (by decide +kernel) rfl rfl
theorem s10_16 {sc : Scr} {l0 l1 l2 : Value} {x : Nat} {j : Int32} {stk : List Value} {h : AHp} {post : Option Value → AHp → Prop} : Ev sc 10 16 [l0, l1, l2] (.int j :: .ref x :: stk) h post = oB (ldi h x j) (fun v => Ev sc 10 17 [l0, l1, l2] (.int v :: stk) h post) := e_ldi (r1 := 0) (r2 := 0) (by decide +kernel)
theorem s10_17 {sc : Scr} {l0 l1 l2 : Value} {x z : Int32} {stk : List Value} {h : AHp} {post : Option Value → AHp → Prop} : Ev sc 10 17 [l0, l1, l2] (.int z :: .int x :: stk) h post = Ev sc 10 18 [l0, l1, l2] (.int (x + z) :: stk) h post := e_1 (e := (17, .iadd, 0, 0)) (q := (18, [l0, l1, l2], (.int (x + z) :: stk), h)) (by decide +kernel) rfl rfl
theorem s10_18 {sc : Scr} {l0 l1 l2 : Value} {x : Int32} {stk : List Value} {h : AHp} {post : Option Value → AHp → Prop} : Ev sc 10 18 [l0, l1, l2] (.int x :: stk) h post = Ev sc 10 19 [l0, .int x, l2] stk h post := e_1 (e := (18, .istore_n 1, 0, 0)) (q := (19, [l0, .int x, l2], stk, h)) (by decide +kernel) rfl rfl
theorem s10_19 {sc : Scr} {l0 l1 : Value} {x : Int32} {stk : List Value} {h : AHp} {post : Option Value → AHp → Prop} : Ev sc 10 19 [l0, l1, .int x] stk h post = Ev sc 10 22 [l0, l1, .int (x + 1)] stk h post := e_1 (e := (19, .iinc 2 1, 0, 0)) (q := (22, [l0, l1, .int (x + 1)], stk, h)) (by decide +kernel) rfl rfl
theorem s10_22 {sc : Scr} {l0 l1 l2 : Value}  {stk : List Value} {h : AHp} {post : Option Value → AHp → Prop} : Ev sc 10 22 [l0, l1, l2] stk h post = Ev sc 10 4 [l0, l1, l2] stk h post := e_1 (e := (22, .goto (-18), 0, 0)) (q := (4, [l0, l1, l2], stk, h)) (by decide +kernel) rfl rfl
theorem s10_25 {sc : Scr} {l0 l2 : Value} {x : Int32} {stk : List Value} {h : AHp} {post : Option Value → AHp → Prop} : Ev sc 10 25 [l0, .int x, l2] stk h post = Ev sc 10 26 [l0, .int x, l2] (.int x :: stk) h post := e_1 (e := (25, .iload_n 1, 0, 0)) (q := (26, [l0, .int x, l2], (.int x :: stk), h)) (by decide +kernel) rfl rfl
theorem s10_26 {sc : Scr} {l0 l1 l2 : Value} {x : Int32} {h : AHp} {post : Option Value → AHp → Prop} : Ev sc 10 26 [l0, l1, l2] [.int x] h post = post (some (.int x)) h := e_r (e := (26, .ireturn, 0, 0)) (by decide +kernel) rfl rfl
-- 11 X0_allTaken ()I
theorem s11_e {a0 : Nat} {h : AHp} {post : Option Value → AHp → Prop} : Call 11 [.ref a0] h post = Ev none 11 0 [.ref a0, .long 0, .long 0] [] h post := rfl
theorem s11_0 {sc : Scr} {l0 l1 l2 : Value}  {stk : List Value} {h : AHp} {post : Option Value → AHp → Prop} : Ev sc 11 0 [l0, l1, l2] stk h post = Ev sc 11 1 [l0, l1, l2] (.int (0) :: stk) h post := e_1 (e := (0, .iconst 0, 0, 0)) (q := (1, [l0, l1, l2], (.int (0) :: stk), h)) (by decide +kernel) rfl rfl
theorem s11_1 {sc : Scr} {l0 l1 l2 : Value} {x : Int32} {stk : List Value} {h : AHp} {post : Option Value → AHp → Prop} : Ev sc 11 1 [l0, l1, l2] (.int x :: stk) h post = Ev sc 11 2 [l0, .int x, l2] stk h post := e_1 (e := (1, .istore_n 1, 0, 0)) (q := (2, [l0, .int x, l2], stk, h)) (by decide +kernel) rfl rfl
theorem s11_2 {sc : Scr} {l0 l1 l2 : Value}  {stk : List Value} {h : AHp} {post : Option Value → AHp → Prop} : Ev sc 11 2 [l0, l1, l2] stk h post = Ev sc 11 3 [l0, l1, l2] (.int (0) :: stk) h post := e_1 (e := (2, .iconst 0, 0, 0)) (q := (3, [l0, l1, l2], (.int (0) :: stk), h)) (by decide +kernel) rfl rfl
theorem s11_3 {sc : Scr} {l0 l1 l2 : Value} {x : Int32} {stk : List Value} {h : AHp} {post : Option Value → AHp → Prop} : Ev sc 11 3 [l0, l1, l2] (.int x :: stk) h post = Ev sc 11 4 [l0, l1, .int x] stk h post := e_1 (e := (3, .istore_n 2, 0, 0)) (q := (4, [l0, l1, .int x], stk, h)) (by decide +kernel) rfl rfl
theorem s11_4 {sc : Scr} {l0 l1 : Value} {x : Int32} {stk : List Value} {h : AHp} {post : Option Value → AHp → Prop} : Ev sc 11 4 [l0, l1, .int x] stk h post = Ev sc 11 5 [l0, l1, .int x] (.int x :: stk) h post := e_1 (e := (4, .iload_n 2, 0, 0)) (q := (5, [l0, l1, .int x], (.int x :: stk), h)) (by decide +kernel) rfl rfl
theorem s11_5 {sc : Scr} {l0 l1 l2 : Value}  {stk : List Value} {h : AHp} {post : Option Value → AHp → Prop} : Ev sc 11 5 [l0, l1, l2] stk h post = Ev sc 11 7 [l0, l1, l2] (.int (8) :: stk) h post := e_1 (e := (5, .bipush 8, 0, 0)) (q := (7, [l0, l1, l2], (.int (8) :: stk), h)) (by decide +kernel) rfl rfl
theorem s11_7 {sc : Scr} {l0 l1 l2 : Value} {x z : Int32} {stk : List Value} {h : AHp} {post : Option Value → AHp → Prop} : Ev sc 11 7 [l0, l1, l2] (.int z :: .int x :: stk) h post = (if z ≤ x then Ev sc 11 25 [l0, l1, l2] stk h post else Ev sc 11 10 [l0, l1, l2] stk h post) := e_icmp_ge (o := 18) (r1 := 0) (r2 := 0) 25 (by decide +kernel) rfl
theorem s11_10 {sc : Scr} {l0 l2 : Value} {x : Int32} {stk : List Value} {h : AHp} {post : Option Value → AHp → Prop} : Ev sc 11 10 [l0, .int x, l2] stk h post = Ev sc 11 11 [l0, .int x, l2] (.int x :: stk) h post := e_1 (e := (10, .iload_n 1, 0, 0)) (q := (11, [l0, .int x, l2], (.int x :: stk), h)) (by decide +kernel) rfl rfl
theorem s11_11 {sc : Scr} {l1 l2 : Value} {x : Nat} {stk : List Value} {h : AHp} {post : Option Value → AHp → Prop} : Ev sc 11 11 [.ref x, l1, l2] stk h post = Ev sc 11 12 [.ref x, l1, l2] (.ref x :: stk) h post := e_1 (e := (11, .aload_n 0, 0, 0)) (q := (12, [.ref x, l1, l2], (.ref x :: stk), h)) (by decide +kernel) rfl rfl
theorem s11_12 {sc : Scr} {l0 l1 l2 : Value} {x : Nat} {stk : List Value} {h : AHp} {post : Option Value → AHp → Prop} : Ev sc 11 12 [l0, l1, l2] (.ref x :: stk) h post = oB (fldv h x 0 2) (fun v => Ev sc 11 15 [l0, l1, l2] (v :: stk) h post) := e_get (i := 18) (r1 := 0) (r2 := 2) (by decide +kernel)
theorem s11_15 {sc : Scr} {l0 l1 : Value} {x : Int32} {stk : List Value} {h : AHp} {post : Option Value → AHp → Prop} : Ev sc 11 15 [l0, l1, .int x] stk h post = Ev sc 11 16 [l0, l1, .int x] (.int x :: stk) h post := e_1 (e := (15, .iload_n 2, 0, 0)) (q := (16, [l0, l1, .int x], (.int x :: stk), h)) (by decide +kernel) rfl rfl
theorem s11_16 {sc : Scr} {l0 l1 l2 : Value} {x : Nat} {j : Int32} {stk : List Value} {h : AHp} {post : Option Value → AHp → Prop} : Ev sc 11 16 [l0, l1, l2] (.int j :: .ref x :: stk) h post = oB (ldi h x j) (fun v => Ev sc 11 17 [l0, l1, l2] (.int v :: stk) h post) := e_ldi (r1 := 0) (r2 := 0) (by decide +kernel)
theorem s11_17 {sc : Scr} {l0 l1 l2 : Value} {x z : Int32} {stk : List Value} {h : AHp} {post : Option Value → AHp → Prop} : Ev sc 11 17 [l0, l1, l2] (.int z :: .int x :: stk) h post = Ev sc 11 18 [l0, l1, l2] (.int (x + z) :: stk) h post := e_1 (e := (17, .iadd, 0, 0)) (q := (18, [l0, l1, l2], (.int (x + z) :: stk), h)) (by decide +kernel) rfl rfl
theorem s11_18 {sc : Scr} {l0 l1 l2 : Value} {x : Int32} {stk : List Value} {h : AHp} {post : Option Value → AHp → Prop} : Ev sc 11 18 [l0, l1, l2] (.int x :: stk) h post = Ev sc 11 19 [l0, .int x, l2] stk h post := e_1 (e := (18, .istore_n 1, 0, 0)) (q := (19, [l0, .int x, l2], stk, h)) (by decide +kernel) rfl rfl
theorem s11_19 {sc : Scr} {l0 l1 : Value} {x : Int32} {stk : List Value} {h : AHp} {post : Option Value → AHp → Prop} : Ev sc 11 19 [l0, l1, .int x] stk h post = Ev sc 11 22 [l0, l1, .int (x + 1)] stk h post := e_1 (e := (19, .iinc 2 1, 0, 0)) (q := (22, [l0, l1, .int (x + 1)], stk, h)) (by decide +kernel) rfl rfl
theorem s11_22 {sc : Scr} {l0 l1 l2 : Value}  {stk : List Value} {h : AHp} {post : Option Value → AHp → Prop} : Ev sc 11 22 [l0, l1, l2] stk h post = Ev sc 11 4 [l0, l1, l2] stk h post := e_1 (e := (22, .goto (-18), 0, 0)) (q := (4, [l0, l1, l2], stk, h)) (by decide +kernel) rfl rfl
theorem s11_25 {sc : Scr} {l0 l2 : Value} {x : Int32} {stk : List Value} {h : AHp} {post : Option Value → AHp → Prop} : Ev sc 11 25 [l0, .int x, l2] stk h post = Ev sc 11 26 [l0, .int x, l2] (.int x :: stk) h post := e_1 (e := (25, .iload_n 1, 0, 0)) (q := (26, [l0, .int x, l2], (.int x :: stk), h)) (by decide +kernel) rfl rfl
theorem s11_26 {sc : Scr} {l0 l1 l2 : Value} {x : Int32} {h : AHp} {post : Option Value → AHp → Prop} : Ev sc 11 26 [l0, l1, l2] [.int x] h post = post (some (.int x)) h := e_r (e := (26, .ireturn, 0, 0)) (by decide +kernel) rfl rfl
-- 12 X0_sum ()I
theorem s12_e {a0 : Nat} {h : AHp} {post : Option Value → AHp → Prop} : Call 12 [.ref a0] h post = Ev none 12 0 [.ref a0] [] h post := rfl
theorem s12_0 {sc : Scr} {x : Nat} {stk : List Value} {h : AHp} {post : Option Value → AHp → Prop} : Ev sc 12 0 [.ref x] stk h post = Ev sc 12 1 [.ref x] (.ref x :: stk) h post := e_1 (e := (0, .aload_n 0, 0, 0)) (q := (1, [.ref x], (.ref x :: stk), h)) (by decide +kernel) rfl rfl
theorem s12_1 {sc : Scr} {l0 : Value}   {x : Nat} {h : AHp} {post : Option Value → AHp → Prop} (ho : isO h x 0) : Ev sc 12 1 [l0] [.ref x] h post = Call 10 [.ref x] h (fun rv h2 => Ev sc 12 4 [l0] (rv.toList ++ []) h2 post) := e_v (i := 43) (z := 10) (r2 := 0) (as := []) (rest := []) (by decide +kernel) rfl rfl (Nat.le_of_ble_eq_true rfl) rfl ho
theorem s12_4 {sc : Scr} {x : Nat} {stk : List Value} {h : AHp} {post : Option Value → AHp → Prop} : Ev sc 12 4 [.ref x] stk h post = Ev sc 12 5 [.ref x] (.ref x :: stk) h post := e_1 (e := (4, .aload_n 0, 0, 0)) (q := (5, [.ref x], (.ref x :: stk), h)) (by decide +kernel) rfl rfl
theorem s12_5 {sc : Scr} {l0 : Value}  {y0 : Int32} {x : Nat} {h : AHp} {post : Option Value → AHp → Prop} (ho : isO h x 0) : Ev sc 12 5 [l0] [.ref x, .int y0] h post = Call 11 [.ref x] h (fun rv h2 => Ev sc 12 8 [l0] (rv.toList ++ [.int y0]) h2 post) := e_v (i := 47) (z := 11) (r2 := 0) (as := []) (rest := [.int y0]) (by decide +kernel) rfl rfl (Nat.le_of_ble_eq_true rfl) rfl ho
theorem s12_8 {sc : Scr} {l0 : Value} {x z : Int32} {stk : List Value} {h : AHp} {post : Option Value → AHp → Prop} : Ev sc 12 8 [l0] (.int z :: .int x :: stk) h post = Ev sc 12 9 [l0] (.int (x - z) :: stk) h post := e_1 (e := (8, .isub, 0, 0)) (q := (9, [l0], (.int (x - z) :: stk), h)) (by decide +kernel) rfl rfl
theorem s12_9 {sc : Scr} {l0 : Value} {x : Int32} {h : AHp} {post : Option Value → AHp → Prop} : Ev sc 12 9 [l0] [.int x] h post = post (some (.int x)) h := e_r (e := (9, .ireturn, 0, 0)) (by decide +kernel) rfl rfl
-- 13 X0_knownWriters ()I
theorem s13_e {a0 : Nat} {h : AHp} {post : Option Value → AHp → Prop} : Call 13 [.ref a0] h post = Ev none 13 0 [.ref a0, .long 0, .long 0] [] h post := rfl
theorem s13_0 {sc : Scr} {l0 l1 l2 : Value}  {stk : List Value} {h : AHp} {post : Option Value → AHp → Prop} : Ev sc 13 0 [l0, l1, l2] stk h post = Ev sc 13 1 [l0, l1, l2] (.int (0) :: stk) h post := e_1 (e := (0, .iconst 0, 0, 0)) (q := (1, [l0, l1, l2], (.int (0) :: stk), h)) (by decide +kernel) rfl rfl
theorem s13_1 {sc : Scr} {l0 l1 l2 : Value} {x : Int32} {stk : List Value} {h : AHp} {post : Option Value → AHp → Prop} : Ev sc 13 1 [l0, l1, l2] (.int x :: stk) h post = Ev sc 13 2 [l0, .int x, l2] stk h post := e_1 (e := (1, .istore_n 1, 0, 0)) (q := (2, [l0, .int x, l2], stk, h)) (by decide +kernel) rfl rfl
theorem s13_2 {sc : Scr} {l0 l1 l2 : Value}  {stk : List Value} {h : AHp} {post : Option Value → AHp → Prop} : Ev sc 13 2 [l0, l1, l2] stk h post = Ev sc 13 3 [l0, l1, l2] (.int (0) :: stk) h post := e_1 (e := (2, .iconst 0, 0, 0)) (q := (3, [l0, l1, l2], (.int (0) :: stk), h)) (by decide +kernel) rfl rfl
theorem s13_3 {sc : Scr} {l0 l1 l2 : Value} {x : Int32} {stk : List Value} {h : AHp} {post : Option Value → AHp → Prop} : Ev sc 13 3 [l0, l1, l2] (.int x :: stk) h post = Ev sc 13 4 [l0, l1, .int x] stk h post := e_1 (e := (3, .istore_n 2, 0, 0)) (q := (4, [l0, l1, .int x], stk, h)) (by decide +kernel) rfl rfl
theorem s13_4 {sc : Scr} {l0 l1 : Value} {x : Int32} {stk : List Value} {h : AHp} {post : Option Value → AHp → Prop} : Ev sc 13 4 [l0, l1, .int x] stk h post = Ev sc 13 5 [l0, l1, .int x] (.int x :: stk) h post := e_1 (e := (4, .iload_n 2, 0, 0)) (q := (5, [l0, l1, .int x], (.int x :: stk), h)) (by decide +kernel) rfl rfl
theorem s13_5 {sc : Scr} {l0 l1 l2 : Value}  {stk : List Value} {h : AHp} {post : Option Value → AHp → Prop} : Ev sc 13 5 [l0, l1, l2] stk h post = Ev sc 13 7 [l0, l1, l2] (.int (8) :: stk) h post := e_1 (e := (5, .bipush 8, 0, 0)) (q := (7, [l0, l1, l2], (.int (8) :: stk), h)) (by decide +kernel) rfl rfl
theorem s13_7 {sc : Scr} {l0 l1 l2 : Value} {x z : Int32} {stk : List Value} {h : AHp} {post : Option Value → AHp → Prop} : Ev sc 13 7 [l0, l1, l2] (.int z :: .int x :: stk) h post = (if z ≤ x then Ev sc 13 30 [l0, l1, l2] stk h post else Ev sc 13 10 [l0, l1, l2] stk h post) := e_icmp_ge (o := 23) (r1 := 0) (r2 := 0) 30 (by decide +kernel) rfl
theorem s13_10 {sc : Scr} {l1 l2 : Value} {x : Nat} {stk : List Value} {h : AHp} {post : Option Value → AHp → Prop} : Ev sc 13 10 [.ref x, l1, l2] stk h post = Ev sc 13 11 [.ref x, l1, l2] (.ref x :: stk) h post := e_1 (e := (10, .aload_n 0, 0, 0)) (q := (11, [.ref x, l1, l2], (.ref x :: stk), h)) (by decide +kernel) rfl rfl
theorem s13_11 {sc : Scr} {l0 l1 : Value} {x : Int32} {stk : List Value} {h : AHp} {post : Option Value → AHp → Prop} : Ev sc 13 11 [l0, l1, .int x] stk h post = Ev sc 13 12 [l0, l1, .int x] (.int x :: stk) h post := e_1 (e := (11, .iload_n 2, 0, 0)) (q := (12, [l0, l1, .int x], (.int x :: stk), h)) (by decide +kernel) rfl rfl
theorem s13_12 {sc : Scr} {l0 l1 l2 : Value} {a0 : Int32}  {x : Nat} {h : AHp} {post : Option Value → AHp → Prop} (ho : isO h x 0) : Ev sc 13 12 [l0, l1, l2] [.int a0, .ref x] h post = Call 4 [.ref x, .int a0] h (fun rv h2 => Ev sc 13 15 [l0, l1, l2] (rv.toList ++ []) h2 post) := e_v (i := 50) (z := 4) (r2 := 0) (as := [.int a0]) (rest := []) (by decide +kernel) rfl rfl (Nat.le_of_ble_eq_true rfl) rfl ho
theorem s13_15 {sc : Scr} {l0 l1 l2 : Value} {x : Int32} {stk : List Value} {h : AHp} {post : Option Value → AHp → Prop} : Ev sc 13 15 [l0, l1, l2] (.int x :: stk) h post = (if x = 0 then Ev sc 13 24 [l0, l1, l2] stk h post else Ev sc 13 18 [l0, l1, l2] stk h post) := e_if_eq (o := 9) (r1 := 0) (r2 := 0) 24 (by decide +kernel) rfl
theorem s13_18 {sc : Scr} {l0 l2 : Value} {x : Int32} {stk : List Value} {h : AHp} {post : Option Value → AHp → Prop} : Ev sc 13 18 [l0, .int x, l2] stk h post = Ev sc 13 19 [l0, .int x, l2] (.int x :: stk) h post := e_1 (e := (18, .iload_n 1, 0, 0)) (q := (19, [l0, .int x, l2], (.int x :: stk), h)) (by decide +kernel) rfl rfl
theorem s13_19 {sc : Scr} {l0 l1 l2 : Value}  {stk : List Value} {h : AHp} {post : Option Value → AHp → Prop} : Ev sc 13 19 [l0, l1, l2] stk h post = Ev sc 13 20 [l0, l1, l2] (.int (1) :: stk) h post := e_1 (e := (19, .iconst 1, 0, 0)) (q := (20, [l0, l1, l2], (.int (1) :: stk), h)) (by decide +kernel) rfl rfl
theorem s13_20 {sc : Scr} {l0 l1 : Value} {x : Int32} {stk : List Value} {h : AHp} {post : Option Value → AHp → Prop} : Ev sc 13 20 [l0, l1, .int x] stk h post = Ev sc 13 21 [l0, l1, .int x] (.int x :: stk) h post := e_1 (e := (20, .iload_n 2, 0, 0)) (q := (21, [l0, l1, .int x], (.int x :: stk), h)) (by decide +kernel) rfl rfl
theorem s13_21 {sc : Scr} {l0 l1 l2 : Value} {x z : Int32} {stk : List Value} {h : AHp} {post : Option Value → AHp → Prop} : Ev sc 13 21 [l0, l1, l2] (.int z :: .int x :: stk) h post = Ev sc 13 22 [l0, l1, l2] (.int (x <<< (z &&& 31)) :: stk) h post := e_1 (e := (21, .ishl, 0, 0)) (q := (22, [l0, l1, l2], (.int (x <<< (z &&& 31)) :: stk), h)) (by decide +kernel) rfl rfl
theorem s13_22 {sc : Scr} {l0 l1 l2 : Value} {x z : Int32} {stk : List Value} {h : AHp} {post : Option Value → AHp → Prop} : Ev sc 13 22 [l0, l1, l2] (.int z :: .int x :: stk) h post = Ev sc 13 23 [l0, l1, l2] (.int (x ||| z) :: stk) h post := e_1 (e := (22, .ior, 0, 0)) (q := (23, [l0, l1, l2], (.int (x ||| z) :: stk), h)) (by decide +kernel) rfl rfl
theorem s13_23 {sc : Scr} {l0 l1 l2 : Value} {x : Int32} {stk : List Value} {h : AHp} {post : Option Value → AHp → Prop} : Ev sc 13 23 [l0, l1, l2] (.int x :: stk) h post = Ev sc 13 24 [l0, .int x, l2] stk h post := e_1 (e := (23, .istore_n 1, 0, 0)) (q := (24, [l0, .int x, l2], stk, h)) (by decide +kernel) rfl rfl
theorem s13_24 {sc : Scr} {l0 l1 : Value} {x : Int32} {stk : List Value} {h : AHp} {post : Option Value → AHp → Prop} : Ev sc 13 24 [l0, l1, .int x] stk h post = Ev sc 13 27 [l0, l1, .int (x + 1)] stk h post := e_1 (e := (24, .iinc 2 1, 0, 0)) (q := (27, [l0, l1, .int (x + 1)], stk, h)) (by decide +kernel) rfl rfl
theorem s13_27 {sc : Scr} {l0 l1 l2 : Value}  {stk : List Value} {h : AHp} {post : Option Value → AHp → Prop} : Ev sc 13 27 [l0, l1, l2] stk h post = Ev sc 13 4 [l0, l1, l2] stk h post := e_1 (e := (27, .goto (-23), 0, 0)) (q := (4, [l0, l1, l2], stk, h)) (by decide +kernel) rfl rfl
theorem s13_30 {sc : Scr} {l0 l2 : Value} {x : Int32} {stk : List Value} {h : AHp} {post : Option Value → AHp → Prop} : Ev sc 13 30 [l0, .int x, l2] stk h post = Ev sc 13 31 [l0, .int x, l2] (.int x :: stk) h post := e_1 (e := (30, .iload_n 1, 0, 0)) (q := (31, [l0, .int x, l2], (.int x :: stk), h)) (by decide +kernel) rfl rfl
theorem s13_31 {sc : Scr} {l0 l1 l2 : Value} {x : Int32} {h : AHp} {post : Option Value → AHp → Prop} : Ev sc 13 31 [l0, l1, l2] [.int x] h post = post (some (.int x)) h := e_r (e := (31, .ireturn, 0, 0)) (by decide +kernel) rfl rfl
-- 14 X1_init ()V
theorem s14_e {a0 : Nat} {h : AHp} {post : Option Value → AHp → Prop} : Call 14 [.ref a0] h post = Ev none 14 0 [.ref a0] [] h post := rfl
theorem s14_0 {sc : Scr} {x : Nat} {stk : List Value} {h : AHp} {post : Option Value → AHp → Prop} : Ev sc 14 0 [.ref x] stk h post = Ev sc 14 1 [.ref x] (.ref x :: stk) h post := e_1 (e := (0, .aload_n 0, 0, 0)) (q := (1, [.ref x], (.ref x :: stk), h)) (by decide +kernel) rfl rfl
theorem s14_1 {sc : Scr} {l0 : Value} {x : Nat}  {h : AHp} {post : Option Value → AHp → Prop} : Ev sc 14 1 [l0] [.ref x] h post = Ev sc 14 4 [l0] [] h post := e_1 (e := (1, .invokespecial 1, 1001, 0)) (q := (4, [l0], [], h)) (by decide +kernel) rfl rfl
theorem s14_4 {sc : Scr} {x : Nat} {stk : List Value} {h : AHp} {post : Option Value → AHp → Prop} : Ev sc 14 4 [.ref x] stk h post = Ev sc 14 5 [.ref x] (.ref x :: stk) h post := e_1 (e := (4, .aload_n 0, 0, 0)) (q := (5, [.ref x], (.ref x :: stk), h)) (by decide +kernel) rfl rfl
theorem s14_5 {sc : Scr} {l0 : Value}  {stk : List Value} {h : AHp} {post : Option Value → AHp → Prop} : Ev sc 14 5 [l0] stk h post = Ev sc 14 6 [l0] (.int (0) :: stk) h post := e_1 (e := (5, .iconst 0, 0, 0)) (q := (6, [l0], (.int (0) :: stk), h)) (by decide +kernel) rfl rfl
theorem s14_6 {sc : Scr} {l0 : Value} {x : Nat} {v : Int32} {stk : List Value} {h : AHp} {post : Option Value → AHp → Prop} : Ev sc 14 6 [l0] (.int v :: .ref x :: stk) h post = oB (stf h x 1 0 (.int v)) (fun h2 => Ev sc 14 9 [l0] stk h2 post) := e_put (i := 7) (r1 := 1) (r2 := 0) (by decide +kernel)
theorem s14_9 {sc : Scr} {x : Nat} {stk : List Value} {h : AHp} {post : Option Value → AHp → Prop} : Ev sc 14 9 [.ref x] stk h post = Ev sc 14 10 [.ref x] (.ref x :: stk) h post := e_1 (e := (9, .aload_n 0, 0, 0)) (q := (10, [.ref x], (.ref x :: stk), h)) (by decide +kernel) rfl rfl
theorem s14_10 {sc : Scr} {l0 : Value}  {stk : List Value} {h : AHp} {post : Option Value → AHp → Prop} : Ev sc 14 10 [l0] stk h post = Ev sc 14 11 [l0] (.int (0) :: stk) h post := e_1 (e := (10, .iconst 0, 0, 0)) (q := (11, [l0], (.int (0) :: stk), h)) (by decide +kernel) rfl rfl
theorem s14_11 {sc : Scr} {l0 : Value} {x : Nat} {v : Int32} {stk : List Value} {h : AHp} {post : Option Value → AHp → Prop} : Ev sc 14 11 [l0] (.int v :: .ref x :: stk) h post = oB (stf h x 1 1 (.int v)) (fun h2 => Ev sc 14 14 [l0] stk h2 post) := e_put (i := 13) (r1 := 1) (r2 := 1) (by decide +kernel)
theorem s14_14 {sc : Scr} {x : Nat} {stk : List Value} {h : AHp} {post : Option Value → AHp → Prop} : Ev sc 14 14 [.ref x] stk h post = Ev sc 14 15 [.ref x] (.ref x :: stk) h post := e_1 (e := (14, .aload_n 0, 0, 0)) (q := (15, [.ref x], (.ref x :: stk), h)) (by decide +kernel) rfl rfl
theorem s14_15 {sc : Scr} {l0 : Value}  {stk : List Value} {h : AHp} {post : Option Value → AHp → Prop} : Ev sc 14 15 [l0] stk h post = Ev sc 14 16 [l0] (.int (0) :: stk) h post := e_1 (e := (15, .iconst 0, 0, 0)) (q := (16, [l0], (.int (0) :: stk), h)) (by decide +kernel) rfl rfl
theorem s14_16 {sc : Scr} {l0 : Value} {x : Nat} {v : Int32} {stk : List Value} {h : AHp} {post : Option Value → AHp → Prop} : Ev sc 14 16 [l0] (.int v :: .ref x :: stk) h post = oB (stf h x 1 2 (.int v)) (fun h2 => Ev sc 14 19 [l0] stk h2 post) := e_put (i := 16) (r1 := 1) (r2 := 2) (by decide +kernel)
theorem s14_19 {sc : Scr} {x : Nat} {stk : List Value} {h : AHp} {post : Option Value → AHp → Prop} : Ev sc 14 19 [.ref x] stk h post = Ev sc 14 20 [.ref x] (.ref x :: stk) h post := e_1 (e := (19, .aload_n 0, 0, 0)) (q := (20, [.ref x], (.ref x :: stk), h)) (by decide +kernel) rfl rfl
theorem s14_20 {sc : Scr} {l0 : Value}  {stk : List Value} {h : AHp} {post : Option Value → AHp → Prop} : Ev sc 14 20 [l0] stk h post = Ev sc 14 21 [l0] (.int (0) :: stk) h post := e_1 (e := (20, .iconst 0, 0, 0)) (q := (21, [l0], (.int (0) :: stk), h)) (by decide +kernel) rfl rfl
theorem s14_21 {sc : Scr} {l0 : Value} {x : Nat} {v : Int32} {stk : List Value} {h : AHp} {post : Option Value → AHp → Prop} : Ev sc 14 21 [l0] (.int v :: .ref x :: stk) h post = oB (stf h x 1 3 (.int v)) (fun h2 => Ev sc 14 24 [l0] stk h2 post) := e_put (i := 19) (r1 := 1) (r2 := 3) (by decide +kernel)
theorem s14_24 {sc : Scr} {x : Nat} {stk : List Value} {h : AHp} {post : Option Value → AHp → Prop} : Ev sc 14 24 [.ref x] stk h post = Ev sc 14 25 [.ref x] (.ref x :: stk) h post := e_1 (e := (24, .aload_n 0, 0, 0)) (q := (25, [.ref x], (.ref x :: stk), h)) (by decide +kernel) rfl rfl
theorem s14_25 {sc : Scr} {l0 : Value}  {stk : List Value} {h : AHp} {post : Option Value → AHp → Prop} : Ev sc 14 25 [l0] stk h post = Ev sc 14 28 [l0] (.ref h.length :: stk) (h ++ [.inr (0, dflt 0)]) post := e_1 (e := (25, .new 23, 0, 0)) (q := (28, [l0], (.ref h.length :: stk), (h ++ [.inr (0, dflt 0)]))) (by decide +kernel) rfl rfl
theorem s14_28 {sc : Scr} {l0 : Value} {x : Nat} {stk : List Value} {h : AHp} {post : Option Value → AHp → Prop} : Ev sc 14 28 [l0] (.ref x :: stk) h post = Ev sc 14 29 [l0] (.ref x :: .ref x :: stk) h post := e_1 (e := (28, .dup, 0, 0)) (q := (29, [l0], (.ref x :: .ref x :: stk), h)) (by decide +kernel) rfl rfl
theorem s14_29 {sc : Scr} {l0 : Value}  {y0 : Nat} {y1 : Nat} {x : Nat} {h : AHp} {post : Option Value → AHp → Prop} : Ev sc 14 29 [l0] [.ref x, .ref y0, .ref y1] h post = Call 0 [.ref x] h (fun rv h2 => Ev sc 14 32 [l0] (rv.toList ++ [.ref y0, .ref y1]) h2 post) := e_i (i := 25) (z := 0) (r2 := 1) (as := []) (rest := [.ref y0, .ref y1]) (by decide +kernel) rfl rfl rfl (Nat.le_of_ble_eq_true rfl) rfl
theorem s14_32 {sc : Scr} {l0 : Value} {x : Nat} {v : Nat} {stk : List Value} {h : AHp} {post : Option Value → AHp → Prop} : Ev sc 14 32 [l0] (.ref v :: .ref x :: stk) h post = oB (stf h x 1 4 (.ref v)) (fun h2 => Ev sc 14 35 [l0] stk h2 post) := e_put (i := 26) (r1 := 1) (r2 := 4) (by decide +kernel)
theorem s14_35 {sc : Scr} {l0 : Value}  {h : AHp} {post : Option Value → AHp → Prop} : Ev sc 14 35 [l0] [] h post = post none h := e_r (e := (35, .return_, 0, 0)) (by decide +kernel) rfl rfl
-- 15 X1_copyFrom (LPartedSums$Letter;)V
theorem s15_e {a0 : Nat} {a1 : Nat} {h : AHp} {post : Option Value → AHp → Prop} : Call 15 [.ref a0, .ref a1] h post = Ev none 15 0 [.ref a0, .ref a1] [] h post := rfl
theorem s15_0 {sc : Scr} {l1 : Value} {x : Nat} {stk : List Value} {h : AHp} {post : Option Value → AHp → Prop} : Ev sc 15 0 [.ref x, l1] stk h post = Ev sc 15 1 [.ref x, l1] (.ref x :: stk) h post := e_1 (e := (0, .aload_n 0, 0, 0)) (q := (1, [.ref x, l1], (.ref x :: stk), h)) (by decide +kernel) rfl rfl
theorem s15_1 {sc : Scr} {l0 : Value} {x : Nat} {stk : List Value} {h : AHp} {post : Option Value → AHp → Prop} : Ev sc 15 1 [l0, .ref x] stk h post = Ev sc 15 2 [l0, .ref x] (.ref x :: stk) h post := e_1 (e := (1, .aload_n 1, 0, 0)) (q := (2, [l0, .ref x], (.ref x :: stk), h)) (by decide +kernel) rfl rfl
theorem s15_2 {sc : Scr} {l0 l1 : Value} {x : Nat} {stk : List Value} {h : AHp} {post : Option Value → AHp → Prop} : Ev sc 15 2 [l0, l1] (.ref x :: stk) h post = oB (fldv h x 1 0) (fun v => Ev sc 15 5 [l0, l1] (v :: stk) h post) := e_get (i := 7) (r1 := 1) (r2 := 0) (by decide +kernel)
theorem s15_5 {sc : Scr} {l0 l1 : Value} {x : Nat} {v : Int32} {stk : List Value} {h : AHp} {post : Option Value → AHp → Prop} : Ev sc 15 5 [l0, l1] (.int v :: .ref x :: stk) h post = oB (stf h x 1 0 (.int v)) (fun h2 => Ev sc 15 8 [l0, l1] stk h2 post) := e_put (i := 7) (r1 := 1) (r2 := 0) (by decide +kernel)
theorem s15_8 {sc : Scr} {l1 : Value} {x : Nat} {stk : List Value} {h : AHp} {post : Option Value → AHp → Prop} : Ev sc 15 8 [.ref x, l1] stk h post = Ev sc 15 9 [.ref x, l1] (.ref x :: stk) h post := e_1 (e := (8, .aload_n 0, 0, 0)) (q := (9, [.ref x, l1], (.ref x :: stk), h)) (by decide +kernel) rfl rfl
theorem s15_9 {sc : Scr} {l0 : Value} {x : Nat} {stk : List Value} {h : AHp} {post : Option Value → AHp → Prop} : Ev sc 15 9 [l0, .ref x] stk h post = Ev sc 15 10 [l0, .ref x] (.ref x :: stk) h post := e_1 (e := (9, .aload_n 1, 0, 0)) (q := (10, [l0, .ref x], (.ref x :: stk), h)) (by decide +kernel) rfl rfl
theorem s15_10 {sc : Scr} {l0 l1 : Value} {x : Nat} {stk : List Value} {h : AHp} {post : Option Value → AHp → Prop} : Ev sc 15 10 [l0, l1] (.ref x :: stk) h post = oB (fldv h x 1 1) (fun v => Ev sc 15 13 [l0, l1] (v :: stk) h post) := e_get (i := 13) (r1 := 1) (r2 := 1) (by decide +kernel)
theorem s15_13 {sc : Scr} {l0 l1 : Value} {x : Nat} {v : Int32} {stk : List Value} {h : AHp} {post : Option Value → AHp → Prop} : Ev sc 15 13 [l0, l1] (.int v :: .ref x :: stk) h post = oB (stf h x 1 1 (.int v)) (fun h2 => Ev sc 15 16 [l0, l1] stk h2 post) := e_put (i := 13) (r1 := 1) (r2 := 1) (by decide +kernel)
theorem s15_16 {sc : Scr} {l1 : Value} {x : Nat} {stk : List Value} {h : AHp} {post : Option Value → AHp → Prop} : Ev sc 15 16 [.ref x, l1] stk h post = Ev sc 15 17 [.ref x, l1] (.ref x :: stk) h post := e_1 (e := (16, .aload_n 0, 0, 0)) (q := (17, [.ref x, l1], (.ref x :: stk), h)) (by decide +kernel) rfl rfl
theorem s15_17 {sc : Scr} {l0 : Value} {x : Nat} {stk : List Value} {h : AHp} {post : Option Value → AHp → Prop} : Ev sc 15 17 [l0, .ref x] stk h post = Ev sc 15 18 [l0, .ref x] (.ref x :: stk) h post := e_1 (e := (17, .aload_n 1, 0, 0)) (q := (18, [l0, .ref x], (.ref x :: stk), h)) (by decide +kernel) rfl rfl
theorem s15_18 {sc : Scr} {l0 l1 : Value} {x : Nat} {stk : List Value} {h : AHp} {post : Option Value → AHp → Prop} : Ev sc 15 18 [l0, l1] (.ref x :: stk) h post = oB (fldv h x 1 2) (fun v => Ev sc 15 21 [l0, l1] (v :: stk) h post) := e_get (i := 16) (r1 := 1) (r2 := 2) (by decide +kernel)
theorem s15_21 {sc : Scr} {l0 l1 : Value} {x : Nat} {v : Int32} {stk : List Value} {h : AHp} {post : Option Value → AHp → Prop} : Ev sc 15 21 [l0, l1] (.int v :: .ref x :: stk) h post = oB (stf h x 1 2 (.int v)) (fun h2 => Ev sc 15 24 [l0, l1] stk h2 post) := e_put (i := 16) (r1 := 1) (r2 := 2) (by decide +kernel)
theorem s15_24 {sc : Scr} {l1 : Value} {x : Nat} {stk : List Value} {h : AHp} {post : Option Value → AHp → Prop} : Ev sc 15 24 [.ref x, l1] stk h post = Ev sc 15 25 [.ref x, l1] (.ref x :: stk) h post := e_1 (e := (24, .aload_n 0, 0, 0)) (q := (25, [.ref x, l1], (.ref x :: stk), h)) (by decide +kernel) rfl rfl
theorem s15_25 {sc : Scr} {l0 : Value} {x : Nat} {stk : List Value} {h : AHp} {post : Option Value → AHp → Prop} : Ev sc 15 25 [l0, .ref x] stk h post = Ev sc 15 26 [l0, .ref x] (.ref x :: stk) h post := e_1 (e := (25, .aload_n 1, 0, 0)) (q := (26, [l0, .ref x], (.ref x :: stk), h)) (by decide +kernel) rfl rfl
theorem s15_26 {sc : Scr} {l0 l1 : Value} {x : Nat} {stk : List Value} {h : AHp} {post : Option Value → AHp → Prop} : Ev sc 15 26 [l0, l1] (.ref x :: stk) h post = oB (fldv h x 1 3) (fun v => Ev sc 15 29 [l0, l1] (v :: stk) h post) := e_get (i := 19) (r1 := 1) (r2 := 3) (by decide +kernel)
theorem s15_29 {sc : Scr} {l0 l1 : Value} {x : Nat} {v : Int32} {stk : List Value} {h : AHp} {post : Option Value → AHp → Prop} : Ev sc 15 29 [l0, l1] (.int v :: .ref x :: stk) h post = oB (stf h x 1 3 (.int v)) (fun h2 => Ev sc 15 32 [l0, l1] stk h2 post) := e_put (i := 19) (r1 := 1) (r2 := 3) (by decide +kernel)
theorem s15_32 {sc : Scr} {l1 : Value} {x : Nat} {stk : List Value} {h : AHp} {post : Option Value → AHp → Prop} : Ev sc 15 32 [.ref x, l1] stk h post = Ev sc 15 33 [.ref x, l1] (.ref x :: stk) h post := e_1 (e := (32, .aload_n 0, 0, 0)) (q := (33, [.ref x, l1], (.ref x :: stk), h)) (by decide +kernel) rfl rfl
theorem s15_33 {sc : Scr} {l0 l1 : Value} {x : Nat} {stk : List Value} {h : AHp} {post : Option Value → AHp → Prop} : Ev sc 15 33 [l0, l1] (.ref x :: stk) h post = oB (fldv h x 1 4) (fun v => Ev sc 15 36 [l0, l1] (v :: stk) h post) := e_get (i := 26) (r1 := 1) (r2 := 4) (by decide +kernel)
theorem s15_36 {sc : Scr} {l0 : Value} {x : Nat} {stk : List Value} {h : AHp} {post : Option Value → AHp → Prop} : Ev sc 15 36 [l0, .ref x] stk h post = Ev sc 15 37 [l0, .ref x] (.ref x :: stk) h post := e_1 (e := (36, .aload_n 1, 0, 0)) (q := (37, [l0, .ref x], (.ref x :: stk), h)) (by decide +kernel) rfl rfl
theorem s15_37 {sc : Scr} {l0 l1 : Value} {x : Nat} {stk : List Value} {h : AHp} {post : Option Value → AHp → Prop} : Ev sc 15 37 [l0, l1] (.ref x :: stk) h post = oB (fldv h x 1 4) (fun v => Ev sc 15 40 [l0, l1] (v :: stk) h post) := e_get (i := 26) (r1 := 1) (r2 := 4) (by decide +kernel)
theorem s15_40 {sc : Scr} {l0 l1 : Value} {a0 : Nat}  {x : Nat} {h : AHp} {post : Option Value → AHp → Prop} (ho : isO h x 0) : Ev sc 15 40 [l0, l1] [.ref a0, .ref x] h post = Call 1 [.ref x, .ref a0] h (fun rv h2 => Ev sc 15 43 [l0, l1] (rv.toList ++ []) h2 post) := e_v (i := 30) (z := 1) (r2 := 0) (as := [.ref a0]) (rest := []) (by decide +kernel) rfl rfl (Nat.le_of_ble_eq_true rfl) rfl ho
theorem s15_43 {sc : Scr} {l0 l1 : Value}  {h : AHp} {post : Option Value → AHp → Prop} : Ev sc 15 43 [l0, l1] [] h post = post none h := e_r (e := (43, .return_, 0, 0)) (by decide +kernel) rfl rfl
-- 16 X2_init ()V
theorem s16_e {a0 : Nat} {h : AHp} {post : Option Value → AHp → Prop} : Call 16 [.ref a0] h post = Ev none 16 0 [.ref a0] [] h post := rfl
theorem s16_0 {sc : Scr} {x : Nat} {stk : List Value} {h : AHp} {post : Option Value → AHp → Prop} : Ev sc 16 0 [.ref x] stk h post = Ev sc 16 1 [.ref x] (.ref x :: stk) h post := e_1 (e := (0, .aload_n 0, 0, 0)) (q := (1, [.ref x], (.ref x :: stk), h)) (by decide +kernel) rfl rfl
theorem s16_1 {sc : Scr} {l0 : Value} {x : Nat}  {h : AHp} {post : Option Value → AHp → Prop} : Ev sc 16 1 [l0] [.ref x] h post = Ev sc 16 4 [l0] [] h post := e_1 (e := (1, .invokespecial 3, 1001, 0)) (q := (4, [l0], [], h)) (by decide +kernel) rfl rfl
theorem s16_4 {sc : Scr} {x : Nat} {stk : List Value} {h : AHp} {post : Option Value → AHp → Prop} : Ev sc 16 4 [.ref x] stk h post = Ev sc 16 5 [.ref x] (.ref x :: stk) h post := e_1 (e := (4, .aload_n 0, 0, 0)) (q := (5, [.ref x], (.ref x :: stk), h)) (by decide +kernel) rfl rfl
theorem s16_5 {sc : Scr} {l0 : Value}  {stk : List Value} {h : AHp} {post : Option Value → AHp → Prop} : Ev sc 16 5 [l0] stk h post = Ev sc 16 7 [l0] (.int (60) :: stk) h post := e_1 (e := (5, .bipush 60, 0, 0)) (q := (7, [l0], (.int (60) :: stk), h)) (by decide +kernel) rfl rfl
theorem s16_7 {sc : Scr} {l0 : Value} {x : Int32} {stk : List Value} {h : AHp} {post : Option Value → AHp → Prop} (hx : ¬ (x < 0 ∨ 100000 < x.toNatClampNeg)) : Ev sc 16 7 [l0] (.int x :: stk) h post = Ev sc 16 9 [l0] (.ref h.length :: stk) (h ++ [.inl (0, x.toNatClampNeg, .inl (fun _ => 0))]) post := e_1 (e := (7, .newarray .int, 0, 0)) (q := (9, [l0], (.ref h.length :: stk), (h ++ [.inl (0, x.toNatClampNeg, .inl (fun _ => 0))]))) (by decide +kernel) rfl (by exact if_neg hx)
theorem s16_9 {sc : Scr} {l0 : Value} {x : Nat} {v : Nat} {stk : List Value} {h : AHp} {post : Option Value → AHp → Prop} : Ev sc 16 9 [l0] (.ref v :: .ref x :: stk) h post = oB (stf h x 2 0 (.ref v)) (fun h2 => Ev sc 16 12 [l0] stk h2 post) := e_put (i := 9) (r1 := 2) (r2 := 0) (by decide +kernel)
theorem s16_12 {sc : Scr} {x : Nat} {stk : List Value} {h : AHp} {post : Option Value → AHp → Prop} : Ev sc 16 12 [.ref x] stk h post = Ev sc 16 13 [.ref x] (.ref x :: stk) h post := e_1 (e := (12, .aload_n 0, 0, 0)) (q := (13, [.ref x], (.ref x :: stk), h)) (by decide +kernel) rfl rfl
theorem s16_13 {sc : Scr} {l0 : Value}  {stk : List Value} {h : AHp} {post : Option Value → AHp → Prop} : Ev sc 16 13 [l0] stk h post = Ev sc 16 14 [l0] (.int (0) :: stk) h post := e_1 (e := (13, .iconst 0, 0, 0)) (q := (14, [l0], (.int (0) :: stk), h)) (by decide +kernel) rfl rfl
theorem s16_14 {sc : Scr} {l0 : Value} {x : Nat} {v : Int32} {stk : List Value} {h : AHp} {post : Option Value → AHp → Prop} : Ev sc 16 14 [l0] (.int v :: .ref x :: stk) h post = oB (stf h x 2 1 (.int v)) (fun h2 => Ev sc 16 17 [l0] stk h2 post) := e_put (i := 15) (r1 := 2) (r2 := 1) (by decide +kernel)
theorem s16_17 {sc : Scr} {x : Nat} {stk : List Value} {h : AHp} {post : Option Value → AHp → Prop} : Ev sc 16 17 [.ref x] stk h post = Ev sc 16 18 [.ref x] (.ref x :: stk) h post := e_1 (e := (17, .aload_n 0, 0, 0)) (q := (18, [.ref x], (.ref x :: stk), h)) (by decide +kernel) rfl rfl
theorem s16_18 {sc : Scr} {l0 : Value}  {stk : List Value} {h : AHp} {post : Option Value → AHp → Prop} : Ev sc 16 18 [l0] stk h post = Ev sc 16 19 [l0] (.int (0) :: stk) h post := e_1 (e := (18, .iconst 0, 0, 0)) (q := (19, [l0], (.int (0) :: stk), h)) (by decide +kernel) rfl rfl
theorem s16_19 {sc : Scr} {l0 : Value} {x : Nat} {v : Int32} {stk : List Value} {h : AHp} {post : Option Value → AHp → Prop} : Ev sc 16 19 [l0] (.int v :: .ref x :: stk) h post = oB (stf h x 2 2 (.int v)) (fun h2 => Ev sc 16 22 [l0] stk h2 post) := e_put (i := 19) (r1 := 2) (r2 := 2) (by decide +kernel)
theorem s16_22 {sc : Scr} {x : Nat} {stk : List Value} {h : AHp} {post : Option Value → AHp → Prop} : Ev sc 16 22 [.ref x] stk h post = Ev sc 16 23 [.ref x] (.ref x :: stk) h post := e_1 (e := (22, .aload_n 0, 0, 0)) (q := (23, [.ref x], (.ref x :: stk), h)) (by decide +kernel) rfl rfl
theorem s16_23 {sc : Scr} {l0 : Value}  {stk : List Value} {h : AHp} {post : Option Value → AHp → Prop} : Ev sc 16 23 [l0] stk h post = Ev sc 16 24 [l0] (.int (-1) :: stk) h post := e_1 (e := (23, .iconst (-1), 0, 0)) (q := (24, [l0], (.int (-1) :: stk), h)) (by decide +kernel) rfl rfl
theorem s16_24 {sc : Scr} {l0 : Value} {x : Nat} {v : Int32} {stk : List Value} {h : AHp} {post : Option Value → AHp → Prop} : Ev sc 16 24 [l0] (.int v :: .ref x :: stk) h post = oB (stf h x 2 3 (.int v)) (fun h2 => Ev sc 16 27 [l0] stk h2 post) := e_put (i := 22) (r1 := 2) (r2 := 3) (by decide +kernel)
theorem s16_27 {sc : Scr} {x : Nat} {stk : List Value} {h : AHp} {post : Option Value → AHp → Prop} : Ev sc 16 27 [.ref x] stk h post = Ev sc 16 28 [.ref x] (.ref x :: stk) h post := e_1 (e := (27, .aload_n 0, 0, 0)) (q := (28, [.ref x], (.ref x :: stk), h)) (by decide +kernel) rfl rfl
theorem s16_28 {sc : Scr} {l0 : Value}  {stk : List Value} {h : AHp} {post : Option Value → AHp → Prop} : Ev sc 16 28 [l0] stk h post = Ev sc 16 29 [l0] (.int (0) :: stk) h post := e_1 (e := (28, .iconst 0, 0, 0)) (q := (29, [l0], (.int (0) :: stk), h)) (by decide +kernel) rfl rfl
theorem s16_29 {sc : Scr} {l0 : Value} {x : Nat} {v : Int32} {stk : List Value} {h : AHp} {post : Option Value → AHp → Prop} : Ev sc 16 29 [l0] (.int v :: .ref x :: stk) h post = oB (stf h x 2 4 (.int v)) (fun h2 => Ev sc 16 32 [l0] stk h2 post) := e_put (i := 25) (r1 := 2) (r2 := 4) (by decide +kernel)
theorem s16_32 {sc : Scr} {x : Nat} {stk : List Value} {h : AHp} {post : Option Value → AHp → Prop} : Ev sc 16 32 [.ref x] stk h post = Ev sc 16 33 [.ref x] (.ref x :: stk) h post := e_1 (e := (32, .aload_n 0, 0, 0)) (q := (33, [.ref x], (.ref x :: stk), h)) (by decide +kernel) rfl rfl
theorem s16_33 {sc : Scr} {l0 : Value}  {stk : List Value} {h : AHp} {post : Option Value → AHp → Prop} : Ev sc 16 33 [l0] stk h post = Ev sc 16 34 [l0] (.int (0) :: stk) h post := e_1 (e := (33, .iconst 0, 0, 0)) (q := (34, [l0], (.int (0) :: stk), h)) (by decide +kernel) rfl rfl
theorem s16_34 {sc : Scr} {l0 : Value} {x : Nat} {v : Int32} {stk : List Value} {h : AHp} {post : Option Value → AHp → Prop} : Ev sc 16 34 [l0] (.int v :: .ref x :: stk) h post = oB (stf h x 2 5 (.int v)) (fun h2 => Ev sc 16 37 [l0] stk h2 post) := e_put (i := 28) (r1 := 2) (r2 := 5) (by decide +kernel)
theorem s16_37 {sc : Scr} {x : Nat} {stk : List Value} {h : AHp} {post : Option Value → AHp → Prop} : Ev sc 16 37 [.ref x] stk h post = Ev sc 16 38 [.ref x] (.ref x :: stk) h post := e_1 (e := (37, .aload_n 0, 0, 0)) (q := (38, [.ref x], (.ref x :: stk), h)) (by decide +kernel) rfl rfl
theorem s16_38 {sc : Scr} {l0 : Value}  {stk : List Value} {h : AHp} {post : Option Value → AHp → Prop} : Ev sc 16 38 [l0] stk h post = Ev sc 16 39 [l0] (.int (0) :: stk) h post := e_1 (e := (38, .iconst 0, 0, 0)) (q := (39, [l0], (.int (0) :: stk), h)) (by decide +kernel) rfl rfl
theorem s16_39 {sc : Scr} {l0 : Value} {x : Nat} {v : Int32} {stk : List Value} {h : AHp} {post : Option Value → AHp → Prop} : Ev sc 16 39 [l0] (.int v :: .ref x :: stk) h post = oB (stf h x 2 6 (.int v)) (fun h2 => Ev sc 16 42 [l0] stk h2 post) := e_put (i := 31) (r1 := 2) (r2 := 6) (by decide +kernel)
theorem s16_42 {sc : Scr} {x : Nat} {stk : List Value} {h : AHp} {post : Option Value → AHp → Prop} : Ev sc 16 42 [.ref x] stk h post = Ev sc 16 43 [.ref x] (.ref x :: stk) h post := e_1 (e := (42, .aload_n 0, 0, 0)) (q := (43, [.ref x], (.ref x :: stk), h)) (by decide +kernel) rfl rfl
theorem s16_43 {sc : Scr} {l0 : Value}  {stk : List Value} {h : AHp} {post : Option Value → AHp → Prop} : Ev sc 16 43 [l0] stk h post = Ev sc 16 44 [l0] (.int (3) :: stk) h post := e_1 (e := (43, .iconst 3, 0, 0)) (q := (44, [l0], (.int (3) :: stk), h)) (by decide +kernel) rfl rfl
theorem s16_44 {sc : Scr} {l0 : Value} {x : Int32} {stk : List Value} {h : AHp} {post : Option Value → AHp → Prop} (hx : ¬ (x < 0 ∨ 100000 < x.toNatClampNeg)) : Ev sc 16 44 [l0] (.int x :: stk) h post = Ev sc 16 46 [l0] (.ref h.length :: stk) (h ++ [.inl (0, x.toNatClampNeg, .inl (fun _ => 0))]) post := e_1 (e := (44, .newarray .int, 0, 0)) (q := (46, [l0], (.ref h.length :: stk), (h ++ [.inl (0, x.toNatClampNeg, .inl (fun _ => 0))]))) (by decide +kernel) rfl (by exact if_neg hx)
theorem s16_46 {sc : Scr} {l0 : Value} {x : Nat} {v : Nat} {stk : List Value} {h : AHp} {post : Option Value → AHp → Prop} : Ev sc 16 46 [l0] (.ref v :: .ref x :: stk) h post = oB (stf h x 2 7 (.ref v)) (fun h2 => Ev sc 16 49 [l0] stk h2 post) := e_put (i := 34) (r1 := 2) (r2 := 7) (by decide +kernel)
theorem s16_49 {sc : Scr} {x : Nat} {stk : List Value} {h : AHp} {post : Option Value → AHp → Prop} : Ev sc 16 49 [.ref x] stk h post = Ev sc 16 50 [.ref x] (.ref x :: stk) h post := e_1 (e := (49, .aload_n 0, 0, 0)) (q := (50, [.ref x], (.ref x :: stk), h)) (by decide +kernel) rfl rfl
theorem s16_50 {sc : Scr} {l0 : Value}  {stk : List Value} {h : AHp} {post : Option Value → AHp → Prop} : Ev sc 16 50 [l0] stk h post = Ev sc 16 51 [l0] (.int (0) :: stk) h post := e_1 (e := (50, .iconst 0, 0, 0)) (q := (51, [l0], (.int (0) :: stk), h)) (by decide +kernel) rfl rfl
theorem s16_51 {sc : Scr} {l0 : Value} {x : Nat} {v : Int32} {stk : List Value} {h : AHp} {post : Option Value → AHp → Prop} : Ev sc 16 51 [l0] (.int v :: .ref x :: stk) h post = oB (stf h x 2 8 (.int v)) (fun h2 => Ev sc 16 54 [l0] stk h2 post) := e_put (i := 37) (r1 := 2) (r2 := 8) (by decide +kernel)
theorem s16_54 {sc : Scr} {l0 : Value}  {h : AHp} {post : Option Value → AHp → Prop} : Ev sc 16 54 [l0] [] h post = post none h := e_r (e := (54, .return_, 0, 0)) (by decide +kernel) rfl rfl
-- 17 X2_append (I)I
theorem s17_e {a0 : Nat} {a1 : Int32} {h : AHp} {post : Option Value → AHp → Prop} : Call 17 [.ref a0, .int a1] h post = Ev none 17 0 [.ref a0, .int a1] [] h post := rfl
theorem s17_0 {sc : Scr} {l1 : Value} {x : Nat} {stk : List Value} {h : AHp} {post : Option Value → AHp → Prop} : Ev sc 17 0 [.ref x, l1] stk h post = Ev sc 17 1 [.ref x, l1] (.ref x :: stk) h post := e_1 (e := (0, .aload_n 0, 0, 0)) (q := (1, [.ref x, l1], (.ref x :: stk), h)) (by decide +kernel) rfl rfl
theorem s17_1 {sc : Scr} {l0 l1 : Value} {x : Nat} {stk : List Value} {h : AHp} {post : Option Value → AHp → Prop} : Ev sc 17 1 [l0, l1] (.ref x :: stk) h post = oB (fldv h x 2 1) (fun v => Ev sc 17 4 [l0, l1] (v :: stk) h post) := e_get (i := 15) (r1 := 2) (r2 := 1) (by decide +kernel)
theorem s17_4 {sc : Scr} {l0 l1 : Value}  {stk : List Value} {h : AHp} {post : Option Value → AHp → Prop} : Ev sc 17 4 [l0, l1] stk h post = Ev sc 17 6 [l0, l1] (.int (60) :: stk) h post := e_1 (e := (4, .bipush 60, 0, 0)) (q := (6, [l0, l1], (.int (60) :: stk), h)) (by decide +kernel) rfl rfl
theorem s17_6 {sc : Scr} {l0 l1 : Value} {x z : Int32} {stk : List Value} {h : AHp} {post : Option Value → AHp → Prop} : Ev sc 17 6 [l0, l1] (.int z :: .int x :: stk) h post = (if x < z then Ev sc 17 12 [l0, l1] stk h post else Ev sc 17 9 [l0, l1] stk h post) := e_icmp_lt (o := 6) (r1 := 0) (r2 := 0) 12 (by decide +kernel) rfl
theorem s17_9 {sc : Scr} {l0 l1 : Value}  {stk : List Value} {h : AHp} {post : Option Value → AHp → Prop} : Ev sc 17 9 [l0, l1] stk h post = Ev sc 17 11 [l0, l1] (.int (-2000000003) :: stk) h post := e_1 (e := (9, .ldc 40, 0, -2000000003)) (q := (11, [l0, l1], (.int (-2000000003) :: stk), h)) (by decide +kernel) rfl rfl
theorem s17_11 {sc : Scr} {l0 l1 : Value} {x : Int32} {h : AHp} {post : Option Value → AHp → Prop} : Ev sc 17 11 [l0, l1] [.int x] h post = post (some (.int x)) h := e_r (e := (11, .ireturn, 0, 0)) (by decide +kernel) rfl rfl
theorem s17_12 {sc : Scr} {l1 : Value} {x : Nat} {stk : List Value} {h : AHp} {post : Option Value → AHp → Prop} : Ev sc 17 12 [.ref x, l1] stk h post = Ev sc 17 13 [.ref x, l1] (.ref x :: stk) h post := e_1 (e := (12, .aload_n 0, 0, 0)) (q := (13, [.ref x, l1], (.ref x :: stk), h)) (by decide +kernel) rfl rfl
theorem s17_13 {sc : Scr} {l0 l1 : Value} {x : Nat} {stk : List Value} {h : AHp} {post : Option Value → AHp → Prop} : Ev sc 17 13 [l0, l1] (.ref x :: stk) h post = oB (fldv h x 2 0) (fun v => Ev sc 17 16 [l0, l1] (v :: stk) h post) := e_get (i := 9) (r1 := 2) (r2 := 0) (by decide +kernel)
theorem s17_16 {sc : Scr} {l1 : Value} {x : Nat} {stk : List Value} {h : AHp} {post : Option Value → AHp → Prop} : Ev sc 17 16 [.ref x, l1] stk h post = Ev sc 17 17 [.ref x, l1] (.ref x :: stk) h post := e_1 (e := (16, .aload_n 0, 0, 0)) (q := (17, [.ref x, l1], (.ref x :: stk), h)) (by decide +kernel) rfl rfl
theorem s17_17 {sc : Scr} {l0 l1 : Value} {x : Nat} {stk : List Value} {h : AHp} {post : Option Value → AHp → Prop} : Ev sc 17 17 [l0, l1] (.ref x :: stk) h post = oB (fldv h x 2 1) (fun v => Ev sc 17 20 [l0, l1] (v :: stk) h post) := e_get (i := 15) (r1 := 2) (r2 := 1) (by decide +kernel)
theorem s17_20 {sc : Scr} {l0 : Value} {x : Int32} {stk : List Value} {h : AHp} {post : Option Value → AHp → Prop} : Ev sc 17 20 [l0, .int x] stk h post = Ev sc 17 21 [l0, .int x] (.int x :: stk) h post := e_1 (e := (20, .iload_n 1, 0, 0)) (q := (21, [l0, .int x], (.int x :: stk), h)) (by decide +kernel) rfl rfl
theorem s17_21 {sc : Scr} {l0 l1 : Value} {x : Nat} {j v : Int32} {stk : List Value} {h : AHp} {post : Option Value → AHp → Prop} : Ev sc 17 21 [l0, l1] (.int v :: .int j :: .ref x :: stk) h post = oB (sti h x j v) (fun h2 => Ev sc 17 22 [l0, l1] stk h2 post) := e_sti (r1 := 0) (r2 := 0) (by decide +kernel)
theorem s17_22 {sc : Scr} {l1 : Value} {x : Nat} {stk : List Value} {h : AHp} {post : Option Value → AHp → Prop} : Ev sc 17 22 [.ref x, l1] stk h post = Ev sc 17 23 [.ref x, l1] (.ref x :: stk) h post := e_1 (e := (22, .aload_n 0, 0, 0)) (q := (23, [.ref x, l1], (.ref x :: stk), h)) (by decide +kernel) rfl rfl
theorem s17_23 {sc : Scr} {l0 l1 : Value} {x : Nat} {stk : List Value} {h : AHp} {post : Option Value → AHp → Prop} : Ev sc 17 23 [l0, l1] (.ref x :: stk) h post = Ev sc 17 24 [l0, l1] (.ref x :: .ref x :: stk) h post := e_1 (e := (23, .dup, 0, 0)) (q := (24, [l0, l1], (.ref x :: .ref x :: stk), h)) (by decide +kernel) rfl rfl
theorem s17_24 {sc : Scr} {l0 l1 : Value} {x : Nat} {stk : List Value} {h : AHp} {post : Option Value → AHp → Prop} : Ev sc 17 24 [l0, l1] (.ref x :: stk) h post = oB (fldv h x 2 1) (fun v => Ev sc 17 27 [l0, l1] (v :: stk) h post) := e_get (i := 15) (r1 := 2) (r2 := 1) (by decide +kernel)
theorem s17_27 {sc : Scr} {l0 l1 : Value}  {stk : List Value} {h : AHp} {post : Option Value → AHp → Prop} : Ev sc 17 27 [l0, l1] stk h post = Ev sc 17 28 [l0, l1] (.int (1) :: stk) h post := e_1 (e := (27, .iconst 1, 0, 0)) (q := (28, [l0, l1], (.int (1) :: stk), h)) (by decide +kernel) rfl rfl
theorem s17_28 {sc : Scr} {l0 l1 : Value} {x z : Int32} {stk : List Value} {h : AHp} {post : Option Value → AHp → Prop} : Ev sc 17 28 [l0, l1] (.int z :: .int x :: stk) h post = Ev sc 17 29 [l0, l1] (.int (x + z) :: stk) h post := e_1 (e := (28, .iadd, 0, 0)) (q := (29, [l0, l1], (.int (x + z) :: stk), h)) (by decide +kernel) rfl rfl
theorem s17_29 {sc : Scr} {l0 l1 : Value} {x : Nat} {v : Int32} {stk : List Value} {h : AHp} {post : Option Value → AHp → Prop} : Ev sc 17 29 [l0, l1] (.int v :: .ref x :: stk) h post = oB (stf h x 2 1 (.int v)) (fun h2 => Ev sc 17 32 [l0, l1] stk h2 post) := e_put (i := 15) (r1 := 2) (r2 := 1) (by decide +kernel)
theorem s17_32 {sc : Scr} {l1 : Value} {x : Nat} {stk : List Value} {h : AHp} {post : Option Value → AHp → Prop} : Ev sc 17 32 [.ref x, l1] stk h post = Ev sc 17 33 [.ref x, l1] (.ref x :: stk) h post := e_1 (e := (32, .aload_n 0, 0, 0)) (q := (33, [.ref x, l1], (.ref x :: stk), h)) (by decide +kernel) rfl rfl
theorem s17_33 {sc : Scr} {l0 l1 : Value} {x : Nat} {stk : List Value} {h : AHp} {post : Option Value → AHp → Prop} : Ev sc 17 33 [l0, l1] (.ref x :: stk) h post = oB (fldv h x 2 1) (fun v => Ev sc 17 36 [l0, l1] (v :: stk) h post) := e_get (i := 15) (r1 := 2) (r2 := 1) (by decide +kernel)
theorem s17_36 {sc : Scr} {l0 l1 : Value} {x : Int32} {h : AHp} {post : Option Value → AHp → Prop} : Ev sc 17 36 [l0, l1] [.int x] h post = post (some (.int x)) h := e_r (e := (36, .ireturn, 0, 0)) (by decide +kernel) rfl rfl
-- 18 X2_runIn (LPartedSums$State;)V
theorem s18_e {a0 : Nat} {a1 : Nat} {h : AHp} {post : Option Value → AHp → Prop} : Call 18 [.ref a0, .ref a1] h post = Ev none 18 0 [.ref a0, .ref a1, .long 0, .long 0] [] h post := rfl
theorem s18_0 {sc : Scr} {l1 l2 l3 : Value} {x : Nat} {stk : List Value} {h : AHp} {post : Option Value → AHp → Prop} : Ev sc 18 0 [.ref x, l1, l2, l3] stk h post = Ev sc 18 1 [.ref x, l1, l2, l3] (.ref x :: stk) h post := e_1 (e := (0, .aload_n 0, 0, 0)) (q := (1, [.ref x, l1, l2, l3], (.ref x :: stk), h)) (by decide +kernel) rfl rfl
theorem s18_1 {sc : Scr} {l0 l1 l2 l3 : Value}  {stk : List Value} {h : AHp} {post : Option Value → AHp → Prop} : Ev sc 18 1 [l0, l1, l2, l3] stk h post = Ev sc 18 2 [l0, l1, l2, l3] (.int (-1) :: stk) h post := e_1 (e := (1, .iconst (-1), 0, 0)) (q := (2, [l0, l1, l2, l3], (.int (-1) :: stk), h)) (by decide +kernel) rfl rfl
theorem s18_2 {sc : Scr} {l0 l1 l2 l3 : Value} {x : Nat} {v : Int32} {stk : List Value} {h : AHp} {post : Option Value → AHp → Prop} : Ev sc 18 2 [l0, l1, l2, l3] (.int v :: .ref x :: stk) h post = oB (stf h x 2 3 (.int v)) (fun h2 => Ev sc 18 5 [l0, l1, l2, l3] stk h2 post) := e_put (i := 22) (r1 := 2) (r2 := 3) (by decide +kernel)
theorem s18_5 {sc : Scr} {l0 l1 l2 l3 : Value}  {stk : List Value} {h : AHp} {post : Option Value → AHp → Prop} : Ev sc 18 5 [l0, l1, l2, l3] stk h post = Ev sc 18 6 [l0, l1, l2, l3] (.int (0) :: stk) h post := e_1 (e := (5, .iconst 0, 0, 0)) (q := (6, [l0, l1, l2, l3], (.int (0) :: stk), h)) (by decide +kernel) rfl rfl
theorem s18_6 {sc : Scr} {l0 l1 l2 l3 : Value} {x : Int32} {stk : List Value} {h : AHp} {post : Option Value → AHp → Prop} : Ev sc 18 6 [l0, l1, l2, l3] (.int x :: stk) h post = Ev sc 18 7 [l0, l1, .int x, l3] stk h post := e_1 (e := (6, .istore_n 2, 0, 0)) (q := (7, [l0, l1, .int x, l3], stk, h)) (by decide +kernel) rfl rfl
theorem s18_7 {sc : Scr} {l1 l2 l3 : Value} {x : Nat} {stk : List Value} {h : AHp} {post : Option Value → AHp → Prop} : Ev sc 18 7 [.ref x, l1, l2, l3] stk h post = Ev sc 18 8 [.ref x, l1, l2, l3] (.ref x :: stk) h post := e_1 (e := (7, .aload_n 0, 0, 0)) (q := (8, [.ref x, l1, l2, l3], (.ref x :: stk), h)) (by decide +kernel) rfl rfl
theorem s18_8 {sc : Scr} {l0 l1 l2 l3 : Value}  {stk : List Value} {h : AHp} {post : Option Value → AHp → Prop} : Ev sc 18 8 [l0, l1, l2, l3] stk h post = Ev sc 18 9 [l0, l1, l2, l3] (.int (0) :: stk) h post := e_1 (e := (8, .iconst 0, 0, 0)) (q := (9, [l0, l1, l2, l3], (.int (0) :: stk), h)) (by decide +kernel) rfl rfl
theorem s18_9 {sc : Scr} {l0 l1 l2 l3 : Value} {x : Nat} {v : Int32} {stk : List Value} {h : AHp} {post : Option Value → AHp → Prop} : Ev sc 18 9 [l0, l1, l2, l3] (.int v :: .ref x :: stk) h post = oB (stf h x 2 2 (.int v)) (fun h2 => Ev sc 18 12 [l0, l1, l2, l3] stk h2 post) := e_put (i := 19) (r1 := 2) (r2 := 2) (by decide +kernel)
theorem s18_12 {sc : Scr} {l1 l2 l3 : Value} {x : Nat} {stk : List Value} {h : AHp} {post : Option Value → AHp → Prop} : Ev sc 18 12 [.ref x, l1, l2, l3] stk h post = Ev sc 18 13 [.ref x, l1, l2, l3] (.ref x :: stk) h post := e_1 (e := (12, .aload_n 0, 0, 0)) (q := (13, [.ref x, l1, l2, l3], (.ref x :: stk), h)) (by decide +kernel) rfl rfl
theorem s18_13 {sc : Scr} {l0 l1 l2 l3 : Value} {x : Nat} {stk : List Value} {h : AHp} {post : Option Value → AHp → Prop} : Ev sc 18 13 [l0, l1, l2, l3] (.ref x :: stk) h post = oB (fldv h x 2 2) (fun v => Ev sc 18 16 [l0, l1, l2, l3] (v :: stk) h post) := e_get (i := 19) (r1 := 2) (r2 := 2) (by decide +kernel)
theorem s18_16 {sc : Scr} {l0 l1 l2 l3 : Value}  {stk : List Value} {h : AHp} {post : Option Value → AHp → Prop} : Ev sc 18 16 [l0, l1, l2, l3] stk h post = Ev sc 18 18 [l0, l1, l2, l3] (.int (60) :: stk) h post := e_1 (e := (16, .bipush 60, 0, 0)) (q := (18, [l0, l1, l2, l3], (.int (60) :: stk), h)) (by decide +kernel) rfl rfl
theorem s18_18 {sc : Scr} {l0 l1 l2 l3 : Value} {x z : Int32} {stk : List Value} {h : AHp} {post : Option Value → AHp → Prop} : Ev sc 18 18 [l0, l1, l2, l3] (.int z :: .int x :: stk) h post = (if z ≤ x then Ev sc 18 89 [l0, l1, l2, l3] stk h post else Ev sc 18 21 [l0, l1, l2, l3] stk h post) := e_icmp_ge (o := 71) (r1 := 0) (r2 := 0) 89 (by decide +kernel) rfl
theorem s18_21 {sc : Scr} {l0 l1 l3 : Value} {x : Int32} {stk : List Value} {h : AHp} {post : Option Value → AHp → Prop} : Ev sc 18 21 [l0, l1, .int x, l3] stk h post = Ev sc 18 22 [l0, l1, .int x, l3] (.int x :: stk) h post := e_1 (e := (21, .iload_n 2, 0, 0)) (q := (22, [l0, l1, .int x, l3], (.int x :: stk), h)) (by decide +kernel) rfl rfl
theorem s18_22 {sc : Scr} {l1 l2 l3 : Value} {x : Nat} {stk : List Value} {h : AHp} {post : Option Value → AHp → Prop} : Ev sc 18 22 [.ref x, l1, l2, l3] stk h post = Ev sc 18 23 [.ref x, l1, l2, l3] (.ref x :: stk) h post := e_1 (e := (22, .aload_n 0, 0, 0)) (q := (23, [.ref x, l1, l2, l3], (.ref x :: stk), h)) (by decide +kernel) rfl rfl
theorem s18_23 {sc : Scr} {l0 l1 l2 l3 : Value} {x : Nat} {stk : List Value} {h : AHp} {post : Option Value → AHp → Prop} : Ev sc 18 23 [l0, l1, l2, l3] (.ref x :: stk) h post = oB (fldv h x 2 1) (fun v => Ev sc 18 26 [l0, l1, l2, l3] (v :: stk) h post) := e_get (i := 15) (r1 := 2) (r2 := 1) (by decide +kernel)
theorem s18_26 {sc : Scr} {l0 l1 l2 l3 : Value} {x z : Int32} {stk : List Value} {h : AHp} {post : Option Value → AHp → Prop} : Ev sc 18 26 [l0, l1, l2, l3] (.int z :: .int x :: stk) h post = (if z ≤ x then Ev sc 18 89 [l0, l1, l2, l3] stk h post else Ev sc 18 29 [l0, l1, l2, l3] stk h post) := e_icmp_ge (o := 63) (r1 := 0) (r2 := 0) 89 (by decide +kernel) rfl
theorem s18_29 {sc : Scr} {l1 l2 l3 : Value} {x : Nat} {stk : List Value} {h : AHp} {post : Option Value → AHp → Prop} : Ev sc 18 29 [.ref x, l1, l2, l3] stk h post = Ev sc 18 30 [.ref x, l1, l2, l3] (.ref x :: stk) h post := e_1 (e := (29, .aload_n 0, 0, 0)) (q := (30, [.ref x, l1, l2, l3], (.ref x :: stk), h)) (by decide +kernel) rfl rfl
theorem s18_30 {sc : Scr} {l0 l1 l3 : Value} {x : Int32} {stk : List Value} {h : AHp} {post : Option Value → AHp → Prop} : Ev sc 18 30 [l0, l1, .int x, l3] stk h post = Ev sc 18 31 [l0, l1, .int x, l3] (.int x :: stk) h post := e_1 (e := (30, .iload_n 2, 0, 0)) (q := (31, [l0, l1, .int x, l3], (.int x :: stk), h)) (by decide +kernel) rfl rfl
theorem s18_31 {sc : Scr} {l0 l1 l2 l3 : Value} {a0 : Int32}  {x : Nat} {h : AHp} {post : Option Value → AHp → Prop} (ho : isO h x 2) : Ev sc 18 31 [l0, l1, l2, l3] [.int a0, .ref x] h post = Call 20 [.ref x, .int a0] h (fun rv h2 => Ev sc 18 34 [l0, l1, l2, l3] (rv.toList ++ []) h2 post) := e_v (i := 41) (z := 20) (r2 := 0) (as := [.int a0]) (rest := []) (by decide +kernel) rfl rfl (Nat.le_of_ble_eq_true rfl) rfl ho
theorem s18_34 {sc : Scr} {l0 l1 l2 l3 : Value} {x : Int32} {stk : List Value} {h : AHp} {post : Option Value → AHp → Prop} : Ev sc 18 34 [l0, l1, l2, l3] (.int x :: stk) h post = (if ¬ x = 0 then Ev sc 18 50 [l0, l1, l2, l3] stk h post else Ev sc 18 37 [l0, l1, l2, l3] stk h post) := e_if_ne (o := 16) (r1 := 0) (r2 := 0) 50 (by decide +kernel) rfl
theorem s18_37 {sc : Scr} {l1 l2 l3 : Value} {x : Nat} {stk : List Value} {h : AHp} {post : Option Value → AHp → Prop} : Ev sc 18 37 [.ref x, l1, l2, l3] stk h post = Ev sc 18 38 [.ref x, l1, l2, l3] (.ref x :: stk) h post := e_1 (e := (37, .aload_n 0, 0, 0)) (q := (38, [.ref x, l1, l2, l3], (.ref x :: stk), h)) (by decide +kernel) rfl rfl
theorem s18_38 {sc : Scr} {l0 l1 l3 : Value} {x : Int32} {stk : List Value} {h : AHp} {post : Option Value → AHp → Prop} : Ev sc 18 38 [l0, l1, .int x, l3] stk h post = Ev sc 18 39 [l0, l1, .int x, l3] (.int x :: stk) h post := e_1 (e := (38, .iload_n 2, 0, 0)) (q := (39, [l0, l1, .int x, l3], (.int x :: stk), h)) (by decide +kernel) rfl rfl
theorem s18_39 {sc : Scr} {l0 l1 l2 l3 : Value}  {stk : List Value} {h : AHp} {post : Option Value → AHp → Prop} : Ev sc 18 39 [l0, l1, l2, l3] stk h post = Ev sc 18 40 [l0, l1, l2, l3] (.int (1) :: stk) h post := e_1 (e := (39, .iconst 1, 0, 0)) (q := (40, [l0, l1, l2, l3], (.int (1) :: stk), h)) (by decide +kernel) rfl rfl
theorem s18_40 {sc : Scr} {l1 l2 l3 : Value} {x : Nat} {stk : List Value} {h : AHp} {post : Option Value → AHp → Prop} : Ev sc 18 40 [.ref x, l1, l2, l3] stk h post = Ev sc 18 41 [.ref x, l1, l2, l3] (.ref x :: stk) h post := e_1 (e := (40, .aload_n 0, 0, 0)) (q := (41, [.ref x, l1, l2, l3], (.ref x :: stk), h)) (by decide +kernel) rfl rfl
theorem s18_41 {sc : Scr} {l0 l1 l2 l3 : Value} {x : Nat} {stk : List Value} {h : AHp} {post : Option Value → AHp → Prop} : Ev sc 18 41 [l0, l1, l2, l3] (.ref x :: stk) h post = oB (fldv h x 2 8) (fun v => Ev sc 18 44 [l0, l1, l2, l3] (v :: stk) h post) := e_get (i := 37) (r1 := 2) (r2 := 8) (by decide +kernel)
theorem s18_44 {sc : Scr} {l0 l1 l3 : Value} {x : Int32} {stk : List Value} {h : AHp} {post : Option Value → AHp → Prop} : Ev sc 18 44 [l0, l1, .int x, l3] stk h post = Ev sc 18 45 [l0, l1, .int x, l3] (.int x :: stk) h post := e_1 (e := (44, .iload_n 2, 0, 0)) (q := (45, [l0, l1, .int x, l3], (.int x :: stk), h)) (by decide +kernel) rfl rfl
theorem s18_45 {sc : Scr} {l0 l1 l2 l3 : Value} {x z : Int32} {stk : List Value} {h : AHp} {post : Option Value → AHp → Prop} : Ev sc 18 45 [l0, l1, l2, l3] (.int z :: .int x :: stk) h post = Ev sc 18 46 [l0, l1, l2, l3] (.int (x - z) :: stk) h post := e_1 (e := (45, .isub, 0, 0)) (q := (46, [l0, l1, l2, l3], (.int (x - z) :: stk), h)) (by decide +kernel) rfl rfl
theorem s18_46 {sc : Scr} {l0 l1 l2 l3 : Value} {a0 : Int32} {a1 : Int32} {a2 : Int32}  {x : Nat} {h : AHp} {post : Option Value → AHp → Prop} (ho : isO h x 2) : Ev sc 18 46 [l0, l1, l2, l3] [.int a0, .int a1, .int a2, .ref x] h post = Call 19 [.ref x, .int a2, .int a1, .int a0] h (fun rv h2 => Ev sc 18 49 [l0, l1, l2, l3] (rv.toList ++ []) h2 post) := e_v (i := 45) (z := 19) (r2 := 0) (as := [.int a2, .int a1, .int a0]) (rest := []) (by decide +kernel) rfl rfl (Nat.le_of_ble_eq_true rfl) rfl ho
theorem s18_49 {sc : Scr} {l0 l1 l2 l3 : Value}  {h : AHp} {post : Option Value → AHp → Prop} : Ev sc 18 49 [l0, l1, l2, l3] [] h post = post none h := e_r (e := (49, .return_, 0, 0)) (by decide +kernel) rfl rfl
theorem s18_50 {sc : Scr} {l1 l2 l3 : Value} {x : Nat} {stk : List Value} {h : AHp} {post : Option Value → AHp → Prop} : Ev sc 18 50 [.ref x, l1, l2, l3] stk h post = Ev sc 18 51 [.ref x, l1, l2, l3] (.ref x :: stk) h post := e_1 (e := (50, .aload_n 0, 0, 0)) (q := (51, [.ref x, l1, l2, l3], (.ref x :: stk), h)) (by decide +kernel) rfl rfl
theorem s18_51 {sc : Scr} {l0 l2 l3 : Value} {x : Nat} {stk : List Value} {h : AHp} {post : Option Value → AHp → Prop} : Ev sc 18 51 [l0, .ref x, l2, l3] stk h post = Ev sc 18 52 [l0, .ref x, l2, l3] (.ref x :: stk) h post := e_1 (e := (51, .aload_n 1, 0, 0)) (q := (52, [l0, .ref x, l2, l3], (.ref x :: stk), h)) (by decide +kernel) rfl rfl
theorem s18_52 {sc : Scr} {l0 l1 l2 l3 : Value} {a0 : Nat}  {x : Nat} {h : AHp} {post : Option Value → AHp → Prop} (ho : isO h x 2) : Ev sc 18 52 [l0, l1, l2, l3] [.ref a0, .ref x] h post = Call 24 [.ref x, .ref a0] h (fun rv h2 => Ev sc 18 55 [l0, l1, l2, l3] (rv.toList ++ []) h2 post) := e_v (i := 49) (z := 24) (r2 := 0) (as := [.ref a0]) (rest := []) (by decide +kernel) rfl rfl (Nat.le_of_ble_eq_true rfl) rfl ho
theorem s18_55 {sc : Scr} {l0 l1 l2 l3 : Value} {x : Int32} {stk : List Value} {h : AHp} {post : Option Value → AHp → Prop} : Ev sc 18 55 [l0, l1, l2, l3] (.int x :: stk) h post = Ev sc 18 56 [l0, l1, l2, .int x] stk h post := e_1 (e := (55, .istore_n 3, 0, 0)) (q := (56, [l0, l1, l2, .int x], stk, h)) (by decide +kernel) rfl rfl
theorem s18_56 {sc : Scr} {l0 l1 l2 : Value} {x : Int32} {stk : List Value} {h : AHp} {post : Option Value → AHp → Prop} : Ev sc 18 56 [l0, l1, l2, .int x] stk h post = Ev sc 18 57 [l0, l1, l2, .int x] (.int x :: stk) h post := e_1 (e := (56, .iload_n 3, 0, 0)) (q := (57, [l0, l1, l2, .int x], (.int x :: stk), h)) (by decide +kernel) rfl rfl
theorem s18_57 {sc : Scr} {l0 l1 l2 l3 : Value} {a0 : Int32}  {h : AHp} {post : Option Value → AHp → Prop} : Ev sc 18 57 [l0, l1, l2, l3] [.int a0] h post = Call 86 [.int a0] h (fun rv h2 => Ev sc 18 60 [l0, l1, l2, l3] (rv.toList ++ []) h2 post) := e_s (i := 53) (z := 86) (r2 := 1) (as := [.int a0]) (rest := []) (by decide +kernel) rfl rfl rfl (Nat.le_of_ble_eq_true rfl) rfl
theorem s18_60 {sc : Scr} {l0 l1 l2 l3 : Value} {x : Int32} {stk : List Value} {h : AHp} {post : Option Value → AHp → Prop} : Ev sc 18 60 [l0, l1, l2, l3] (.int x :: stk) h post = (if x = 0 then Ev sc 18 71 [l0, l1, l2, l3] stk h post else Ev sc 18 63 [l0, l1, l2, l3] stk h post) := e_if_eq (o := 11) (r1 := 0) (r2 := 0) 71 (by decide +kernel) rfl
theorem s18_63 {sc : Scr} {l1 l2 l3 : Value} {x : Nat} {stk : List Value} {h : AHp} {post : Option Value → AHp → Prop} : Ev sc 18 63 [.ref x, l1, l2, l3] stk h post = Ev sc 18 64 [.ref x, l1, l2, l3] (.ref x :: stk) h post := e_1 (e := (63, .aload_n 0, 0, 0)) (q := (64, [.ref x, l1, l2, l3], (.ref x :: stk), h)) (by decide +kernel) rfl rfl
theorem s18_64 {sc : Scr} {l0 l1 l3 : Value} {x : Int32} {stk : List Value} {h : AHp} {post : Option Value → AHp → Prop} : Ev sc 18 64 [l0, l1, .int x, l3] stk h post = Ev sc 18 65 [l0, l1, .int x, l3] (.int x :: stk) h post := e_1 (e := (64, .iload_n 2, 0, 0)) (q := (65, [l0, l1, .int x, l3], (.int x :: stk), h)) (by decide +kernel) rfl rfl
theorem s18_65 {sc : Scr} {l0 l1 l2 l3 : Value}  {stk : List Value} {h : AHp} {post : Option Value → AHp → Prop} : Ev sc 18 65 [l0, l1, l2, l3] stk h post = Ev sc 18 66 [l0, l1, l2, l3] (.int (2) :: stk) h post := e_1 (e := (65, .iconst 2, 0, 0)) (q := (66, [l0, l1, l2, l3], (.int (2) :: stk), h)) (by decide +kernel) rfl rfl
theorem s18_66 {sc : Scr} {l0 l1 l2 : Value} {x : Int32} {stk : List Value} {h : AHp} {post : Option Value → AHp → Prop} : Ev sc 18 66 [l0, l1, l2, .int x] stk h post = Ev sc 18 67 [l0, l1, l2, .int x] (.int x :: stk) h post := e_1 (e := (66, .iload_n 3, 0, 0)) (q := (67, [l0, l1, l2, .int x], (.int x :: stk), h)) (by decide +kernel) rfl rfl
theorem s18_67 {sc : Scr} {l0 l1 l2 l3 : Value} {a0 : Int32} {a1 : Int32} {a2 : Int32}  {x : Nat} {h : AHp} {post : Option Value → AHp → Prop} (ho : isO h x 2) : Ev sc 18 67 [l0, l1, l2, l3] [.int a0, .int a1, .int a2, .ref x] h post = Call 19 [.ref x, .int a2, .int a1, .int a0] h (fun rv h2 => Ev sc 18 70 [l0, l1, l2, l3] (rv.toList ++ []) h2 post) := e_v (i := 45) (z := 19) (r2 := 0) (as := [.int a2, .int a1, .int a0]) (rest := []) (by decide +kernel) rfl rfl (Nat.le_of_ble_eq_true rfl) rfl ho
theorem s18_70 {sc : Scr} {l0 l1 l2 l3 : Value}  {h : AHp} {post : Option Value → AHp → Prop} : Ev sc 18 70 [l0, l1, l2, l3] [] h post = post none h := e_r (e := (70, .return_, 0, 0)) (by decide +kernel) rfl rfl
theorem s18_71 {sc : Scr} {l1 l2 l3 : Value} {x : Nat} {stk : List Value} {h : AHp} {post : Option Value → AHp → Prop} : Ev sc 18 71 [.ref x, l1, l2, l3] stk h post = Ev sc 18 72 [.ref x, l1, l2, l3] (.ref x :: stk) h post := e_1 (e := (71, .aload_n 0, 0, 0)) (q := (72, [.ref x, l1, l2, l3], (.ref x :: stk), h)) (by decide +kernel) rfl rfl
theorem s18_72 {sc : Scr} {l0 l1 l2 l3 : Value} {x : Nat} {stk : List Value} {h : AHp} {post : Option Value → AHp → Prop} : Ev sc 18 72 [l0, l1, l2, l3] (.ref x :: stk) h post = oB (fldv h x 2 8) (fun v => Ev sc 18 75 [l0, l1, l2, l3] (v :: stk) h post) := e_get (i := 37) (r1 := 2) (r2 := 8) (by decide +kernel)
theorem s18_75 {sc : Scr} {l0 l1 l2 l3 : Value} {x : Int32} {stk : List Value} {h : AHp} {post : Option Value → AHp → Prop} : Ev sc 18 75 [l0, l1, l2, l3] (.int x :: stk) h post = Ev sc 18 76 [l0, l1, .int x, l3] stk h post := e_1 (e := (75, .istore_n 2, 0, 0)) (q := (76, [l0, l1, .int x, l3], stk, h)) (by decide +kernel) rfl rfl
theorem s18_76 {sc : Scr} {l1 l2 l3 : Value} {x : Nat} {stk : List Value} {h : AHp} {post : Option Value → AHp → Prop} : Ev sc 18 76 [.ref x, l1, l2, l3] stk h post = Ev sc 18 77 [.ref x, l1, l2, l3] (.ref x :: stk) h post := e_1 (e := (76, .aload_n 0, 0, 0)) (q := (77, [.ref x, l1, l2, l3], (.ref x :: stk), h)) (by decide +kernel) rfl rfl
theorem s18_77 {sc : Scr} {l0 l1 l2 l3 : Value} {x : Nat} {stk : List Value} {h : AHp} {post : Option Value → AHp → Prop} : Ev sc 18 77 [l0, l1, l2, l3] (.ref x :: stk) h post = Ev sc 18 78 [l0, l1, l2, l3] (.ref x :: .ref x :: stk) h post := e_1 (e := (77, .dup, 0, 0)) (q := (78, [l0, l1, l2, l3], (.ref x :: .ref x :: stk), h)) (by decide +kernel) rfl rfl
theorem s18_78 {sc : Scr} {l0 l1 l2 l3 : Value} {x : Nat} {stk : List Value} {h : AHp} {post : Option Value → AHp → Prop} : Ev sc 18 78 [l0, l1, l2, l3] (.ref x :: stk) h post = oB (fldv h x 2 2) (fun v => Ev sc 18 81 [l0, l1, l2, l3] (v :: stk) h post) := e_get (i := 19) (r1 := 2) (r2 := 2) (by decide +kernel)
theorem s18_81 {sc : Scr} {l0 l1 l2 l3 : Value}  {stk : List Value} {h : AHp} {post : Option Value → AHp → Prop} : Ev sc 18 81 [l0, l1, l2, l3] stk h post = Ev sc 18 82 [l0, l1, l2, l3] (.int (1) :: stk) h post := e_1 (e := (81, .iconst 1, 0, 0)) (q := (82, [l0, l1, l2, l3], (.int (1) :: stk), h)) (by decide +kernel) rfl rfl
theorem s18_82 {sc : Scr} {l0 l1 l2 l3 : Value} {x z : Int32} {stk : List Value} {h : AHp} {post : Option Value → AHp → Prop} : Ev sc 18 82 [l0, l1, l2, l3] (.int z :: .int x :: stk) h post = Ev sc 18 83 [l0, l1, l2, l3] (.int (x + z) :: stk) h post := e_1 (e := (82, .iadd, 0, 0)) (q := (83, [l0, l1, l2, l3], (.int (x + z) :: stk), h)) (by decide +kernel) rfl rfl
theorem s18_83 {sc : Scr} {l0 l1 l2 l3 : Value} {x : Nat} {v : Int32} {stk : List Value} {h : AHp} {post : Option Value → AHp → Prop} : Ev sc 18 83 [l0, l1, l2, l3] (.int v :: .ref x :: stk) h post = oB (stf h x 2 2 (.int v)) (fun h2 => Ev sc 18 86 [l0, l1, l2, l3] stk h2 post) := e_put (i := 19) (r1 := 2) (r2 := 2) (by decide +kernel)
theorem s18_86 {sc : Scr} {l0 l1 l2 l3 : Value}  {stk : List Value} {h : AHp} {post : Option Value → AHp → Prop} : Ev sc 18 86 [l0, l1, l2, l3] stk h post = Ev sc 18 12 [l0, l1, l2, l3] stk h post := e_1 (e := (86, .goto (-74), 0, 0)) (q := (12, [l0, l1, l2, l3], stk, h)) (by decide +kernel) rfl rfl
theorem s18_89 {sc : Scr} {l0 l1 l2 l3 : Value}  {h : AHp} {post : Option Value → AHp → Prop} : Ev sc 18 89 [l0, l1, l2, l3] [] h post = post none h := e_r (e := (89, .return_, 0, 0)) (by decide +kernel) rfl rfl
-- 19 X2_noteFault (III)V
theorem s19_e {a0 : Nat} {a1 : Int32} {a2 : Int32} {a3 : Int32} {h : AHp} {post : Option Value → AHp → Prop} : Call 19 [.ref a0, .int a1, .int a2, .int a3] h post = Ev none 19 0 [.ref a0, .int a1, .int a2, .int a3] [] h post := rfl
theorem s19_0 {sc : Scr} {l1 l2 l3 : Value} {x : Nat} {stk : List Value} {h : AHp} {post : Option Value → AHp → Prop} : Ev sc 19 0 [.ref x, l1, l2, l3] stk h post = Ev sc 19 1 [.ref x, l1, l2, l3] (.ref x :: stk) h post := e_1 (e := (0, .aload_n 0, 0, 0)) (q := (1, [.ref x, l1, l2, l3], (.ref x :: stk), h)) (by decide +kernel) rfl rfl
theorem s19_1 {sc : Scr} {l0 l2 l3 : Value} {x : Int32} {stk : List Value} {h : AHp} {post : Option Value → AHp → Prop} : Ev sc 19 1 [l0, .int x, l2, l3] stk h post = Ev sc 19 2 [l0, .int x, l2, l3] (.int x :: stk) h post := e_1 (e := (1, .iload_n 1, 0, 0)) (q := (2, [l0, .int x, l2, l3], (.int x :: stk), h)) (by decide +kernel) rfl rfl
theorem s19_2 {sc : Scr} {l0 l1 l2 l3 : Value} {x : Nat} {v : Int32} {stk : List Value} {h : AHp} {post : Option Value → AHp → Prop} : Ev sc 19 2 [l0, l1, l2, l3] (.int v :: .ref x :: stk) h post = oB (stf h x 2 3 (.int v)) (fun h2 => Ev sc 19 5 [l0, l1, l2, l3] stk h2 post) := e_put (i := 22) (r1 := 2) (r2 := 3) (by decide +kernel)
theorem s19_5 {sc : Scr} {l1 l2 l3 : Value} {x : Nat} {stk : List Value} {h : AHp} {post : Option Value → AHp → Prop} : Ev sc 19 5 [.ref x, l1, l2, l3] stk h post = Ev sc 19 6 [.ref x, l1, l2, l3] (.ref x :: stk) h post := e_1 (e := (5, .aload_n 0, 0, 0)) (q := (6, [.ref x, l1, l2, l3], (.ref x :: stk), h)) (by decide +kernel) rfl rfl
theorem s19_6 {sc : Scr} {l0 l1 l3 : Value} {x : Int32} {stk : List Value} {h : AHp} {post : Option Value → AHp → Prop} : Ev sc 19 6 [l0, l1, .int x, l3] stk h post = Ev sc 19 7 [l0, l1, .int x, l3] (.int x :: stk) h post := e_1 (e := (6, .iload_n 2, 0, 0)) (q := (7, [l0, l1, .int x, l3], (.int x :: stk), h)) (by decide +kernel) rfl rfl
theorem s19_7 {sc : Scr} {l0 l1 l2 l3 : Value} {x : Nat} {v : Int32} {stk : List Value} {h : AHp} {post : Option Value → AHp → Prop} : Ev sc 19 7 [l0, l1, l2, l3] (.int v :: .ref x :: stk) h post = oB (stf h x 2 4 (.int v)) (fun h2 => Ev sc 19 10 [l0, l1, l2, l3] stk h2 post) := e_put (i := 25) (r1 := 2) (r2 := 4) (by decide +kernel)
theorem s19_10 {sc : Scr} {l1 l2 l3 : Value} {x : Nat} {stk : List Value} {h : AHp} {post : Option Value → AHp → Prop} : Ev sc 19 10 [.ref x, l1, l2, l3] stk h post = Ev sc 19 11 [.ref x, l1, l2, l3] (.ref x :: stk) h post := e_1 (e := (10, .aload_n 0, 0, 0)) (q := (11, [.ref x, l1, l2, l3], (.ref x :: stk), h)) (by decide +kernel) rfl rfl
theorem s19_11 {sc : Scr} {l0 l1 l2 : Value} {x : Int32} {stk : List Value} {h : AHp} {post : Option Value → AHp → Prop} : Ev sc 19 11 [l0, l1, l2, .int x] stk h post = Ev sc 19 12 [l0, l1, l2, .int x] (.int x :: stk) h post := e_1 (e := (11, .iload_n 3, 0, 0)) (q := (12, [l0, l1, l2, .int x], (.int x :: stk), h)) (by decide +kernel) rfl rfl
theorem s19_12 {sc : Scr} {l0 l1 l2 l3 : Value} {x : Nat} {v : Int32} {stk : List Value} {h : AHp} {post : Option Value → AHp → Prop} : Ev sc 19 12 [l0, l1, l2, l3] (.int v :: .ref x :: stk) h post = oB (stf h x 2 5 (.int v)) (fun h2 => Ev sc 19 15 [l0, l1, l2, l3] stk h2 post) := e_put (i := 28) (r1 := 2) (r2 := 5) (by decide +kernel)
theorem s19_15 {sc : Scr} {l0 l1 l2 l3 : Value}  {h : AHp} {post : Option Value → AHp → Prop} : Ev sc 19 15 [l0, l1, l2, l3] [] h post = post none h := e_r (e := (15, .return_, 0, 0)) (by decide +kernel) rfl rfl
-- 20 X2_readOrder (I)Z
theorem s20_e {a0 : Nat} {a1 : Int32} {h : AHp} {post : Option Value → AHp → Prop} : Call 20 [.ref a0, .int a1] h post = Ev none 20 0 [.ref a0, .int a1, .long 0, .long 0] [] h post := rfl
theorem s20_0 {sc : Scr} {l1 l2 l3 : Value} {x : Nat} {stk : List Value} {h : AHp} {post : Option Value → AHp → Prop} : Ev sc 20 0 [.ref x, l1, l2, l3] stk h post = Ev sc 20 1 [.ref x, l1, l2, l3] (.ref x :: stk) h post := e_1 (e := (0, .aload_n 0, 0, 0)) (q := (1, [.ref x, l1, l2, l3], (.ref x :: stk), h)) (by decide +kernel) rfl rfl
theorem s20_1 {sc : Scr} {l0 l2 l3 : Value} {x : Int32} {stk : List Value} {h : AHp} {post : Option Value → AHp → Prop} : Ev sc 20 1 [l0, .int x, l2, l3] stk h post = Ev sc 20 2 [l0, .int x, l2, l3] (.int x :: stk) h post := e_1 (e := (1, .iload_n 1, 0, 0)) (q := (2, [l0, .int x, l2, l3], (.int x :: stk), h)) (by decide +kernel) rfl rfl
theorem s20_2 {sc : Scr} {l0 l1 l2 l3 : Value} {x : Nat} {v : Int32} {stk : List Value} {h : AHp} {post : Option Value → AHp → Prop} : Ev sc 20 2 [l0, l1, l2, l3] (.int v :: .ref x :: stk) h post = oB (stf h x 2 8 (.int v)) (fun h2 => Ev sc 20 5 [l0, l1, l2, l3] stk h2 post) := e_put (i := 37) (r1 := 2) (r2 := 8) (by decide +kernel)
theorem s20_5 {sc : Scr} {l1 l2 l3 : Value} {x : Nat} {stk : List Value} {h : AHp} {post : Option Value → AHp → Prop} : Ev sc 20 5 [.ref x, l1, l2, l3] stk h post = Ev sc 20 6 [.ref x, l1, l2, l3] (.ref x :: stk) h post := e_1 (e := (5, .aload_n 0, 0, 0)) (q := (6, [.ref x, l1, l2, l3], (.ref x :: stk), h)) (by decide +kernel) rfl rfl
theorem s20_6 {sc : Scr} {l1 l2 l3 : Value} {x : Nat} {stk : List Value} {h : AHp} {post : Option Value → AHp → Prop} : Ev sc 20 6 [.ref x, l1, l2, l3] stk h post = Ev sc 20 7 [.ref x, l1, l2, l3] (.ref x :: stk) h post := e_1 (e := (6, .aload_n 0, 0, 0)) (q := (7, [.ref x, l1, l2, l3], (.ref x :: stk), h)) (by decide +kernel) rfl rfl
theorem s20_7 {sc : Scr} {l0 l1 l2 l3 : Value} {x : Nat} {stk : List Value} {h : AHp} {post : Option Value → AHp → Prop} : Ev sc 20 7 [l0, l1, l2, l3] (.ref x :: stk) h post = oB (fldv h x 2 0) (fun v => Ev sc 20 10 [l0, l1, l2, l3] (v :: stk) h post) := e_get (i := 9) (r1 := 2) (r2 := 0) (by decide +kernel)
theorem s20_10 {sc : Scr} {l0 l2 l3 : Value} {x : Int32} {stk : List Value} {h : AHp} {post : Option Value → AHp → Prop} : Ev sc 20 10 [l0, .int x, l2, l3] stk h post = Ev sc 20 11 [l0, .int x, l2, l3] (.int x :: stk) h post := e_1 (e := (10, .iload_n 1, 0, 0)) (q := (11, [l0, .int x, l2, l3], (.int x :: stk), h)) (by decide +kernel) rfl rfl
theorem s20_11 {sc : Scr} {l0 l1 l2 l3 : Value} {x : Nat} {j : Int32} {stk : List Value} {h : AHp} {post : Option Value → AHp → Prop} : Ev sc 20 11 [l0, l1, l2, l3] (.int j :: .ref x :: stk) h post = oB (ldi h x j) (fun v => Ev sc 20 12 [l0, l1, l2, l3] (.int v :: stk) h post) := e_ldi (r1 := 0) (r2 := 0) (by decide +kernel)
theorem s20_12 {sc : Scr} {l0 l1 l2 l3 : Value} {x : Nat} {v : Int32} {stk : List Value} {h : AHp} {post : Option Value → AHp → Prop} : Ev sc 20 12 [l0, l1, l2, l3] (.int v :: .ref x :: stk) h post = oB (stf h x 2 6 (.int v)) (fun h2 => Ev sc 20 15 [l0, l1, l2, l3] stk h2 post) := e_put (i := 31) (r1 := 2) (r2 := 6) (by decide +kernel)
theorem s20_15 {sc : Scr} {l1 l2 l3 : Value} {x : Nat} {stk : List Value} {h : AHp} {post : Option Value → AHp → Prop} : Ev sc 20 15 [.ref x, l1, l2, l3] stk h post = Ev sc 20 16 [.ref x, l1, l2, l3] (.ref x :: stk) h post := e_1 (e := (15, .aload_n 0, 0, 0)) (q := (16, [.ref x, l1, l2, l3], (.ref x :: stk), h)) (by decide +kernel) rfl rfl
theorem s20_16 {sc : Scr} {l0 l1 l2 l3 : Value} {x : Nat} {stk : List Value} {h : AHp} {post : Option Value → AHp → Prop} : Ev sc 20 16 [l0, l1, l2, l3] (.ref x :: stk) h post = oB (fldv h x 2 6) (fun v => Ev sc 20 19 [l0, l1, l2, l3] (v :: stk) h post) := e_get (i := 31) (r1 := 2) (r2 := 6) (by decide +kernel)
theorem s20_19 {sc : Scr} {l0 l1 l2 l3 : Value} {a0 : Int32}  {h : AHp} {post : Option Value → AHp → Prop} : Ev sc 20 19 [l0, l1, l2, l3] [.int a0] h post = Call 21 [.int a0] h (fun rv h2 => Ev sc 20 22 [l0, l1, l2, l3] (rv.toList ++ []) h2 post) := e_s (i := 56) (z := 21) (r2 := 0) (as := [.int a0]) (rest := []) (by decide +kernel) rfl rfl rfl (Nat.le_of_ble_eq_true rfl) rfl
theorem s20_22 {sc : Scr} {l0 l1 l2 l3 : Value} {x : Int32} {stk : List Value} {h : AHp} {post : Option Value → AHp → Prop} : Ev sc 20 22 [l0, l1, l2, l3] (.int x :: stk) h post = Ev sc 20 23 [l0, l1, .int x, l3] stk h post := e_1 (e := (22, .istore_n 2, 0, 0)) (q := (23, [l0, l1, .int x, l3], stk, h)) (by decide +kernel) rfl rfl
theorem s20_23 {sc : Scr} {l0 l1 l3 : Value} {x : Int32} {stk : List Value} {h : AHp} {post : Option Value → AHp → Prop} : Ev sc 20 23 [l0, l1, .int x, l3] stk h post = Ev sc 20 24 [l0, l1, .int x, l3] (.int x :: stk) h post := e_1 (e := (23, .iload_n 2, 0, 0)) (q := (24, [l0, l1, .int x, l3], (.int x :: stk), h)) (by decide +kernel) rfl rfl
theorem s20_24 {sc : Scr} {l0 l1 l2 l3 : Value} {x : Int32} {stk : List Value} {h : AHp} {post : Option Value → AHp → Prop} : Ev sc 20 24 [l0, l1, l2, l3] (.int x :: stk) h post = (if ¬ x = 0 then Ev sc 20 29 [l0, l1, l2, l3] stk h post else Ev sc 20 27 [l0, l1, l2, l3] stk h post) := e_if_ne (o := 5) (r1 := 0) (r2 := 0) 29 (by decide +kernel) rfl
theorem s20_27 {sc : Scr} {l0 l1 l2 l3 : Value}  {stk : List Value} {h : AHp} {post : Option Value → AHp → Prop} : Ev sc 20 27 [l0, l1, l2, l3] stk h post = Ev sc 20 28 [l0, l1, l2, l3] (.int (0) :: stk) h post := e_1 (e := (27, .iconst 0, 0, 0)) (q := (28, [l0, l1, l2, l3], (.int (0) :: stk), h)) (by decide +kernel) rfl rfl
theorem s20_28 {sc : Scr} {l0 l1 l2 l3 : Value} {x : Int32} {h : AHp} {post : Option Value → AHp → Prop} : Ev sc 20 28 [l0, l1, l2, l3] [.int x] h post = ((x = 0 ∨ x = 1) ∧ post (some (.int x)) h) := e_retb (r1 := 0) (r2 := 0) (by decide +kernel) rfl
theorem s20_29 {sc : Scr} {l1 l2 l3 : Value} {x : Nat} {stk : List Value} {h : AHp} {post : Option Value → AHp → Prop} : Ev sc 20 29 [.ref x, l1, l2, l3] stk h post = Ev sc 20 30 [.ref x, l1, l2, l3] (.ref x :: stk) h post := e_1 (e := (29, .aload_n 0, 0, 0)) (q := (30, [.ref x, l1, l2, l3], (.ref x :: stk), h)) (by decide +kernel) rfl rfl
theorem s20_30 {sc : Scr} {l0 l1 l2 l3 : Value} {x : Nat} {stk : List Value} {h : AHp} {post : Option Value → AHp → Prop} : Ev sc 20 30 [l0, l1, l2, l3] (.ref x :: stk) h post = Ev sc 20 31 [l0, l1, l2, l3] (.ref x :: .ref x :: stk) h post := e_1 (e := (30, .dup, 0, 0)) (q := (31, [l0, l1, l2, l3], (.ref x :: .ref x :: stk), h)) (by decide +kernel) rfl rfl
theorem s20_31 {sc : Scr} {l0 l1 l2 l3 : Value} {x : Nat} {stk : List Value} {h : AHp} {post : Option Value → AHp → Prop} : Ev sc 20 31 [l0, l1, l2, l3] (.ref x :: stk) h post = oB (fldv h x 2 8) (fun v => Ev sc 20 34 [l0, l1, l2, l3] (v :: stk) h post) := e_get (i := 37) (r1 := 2) (r2 := 8) (by decide +kernel)
theorem s20_34 {sc : Scr} {l0 l1 l2 l3 : Value}  {stk : List Value} {h : AHp} {post : Option Value → AHp → Prop} : Ev sc 20 34 [l0, l1, l2, l3] stk h post = Ev sc 20 35 [l0, l1, l2, l3] (.int (1) :: stk) h post := e_1 (e := (34, .iconst 1, 0, 0)) (q := (35, [l0, l1, l2, l3], (.int (1) :: stk), h)) (by decide +kernel) rfl rfl
theorem s20_35 {sc : Scr} {l0 l1 l2 l3 : Value} {x z : Int32} {stk : List Value} {h : AHp} {post : Option Value → AHp → Prop} : Ev sc 20 35 [l0, l1, l2, l3] (.int z :: .int x :: stk) h post = Ev sc 20 36 [l0, l1, l2, l3] (.int (x + z) :: stk) h post := e_1 (e := (35, .iadd, 0, 0)) (q := (36, [l0, l1, l2, l3], (.int (x + z) :: stk), h)) (by decide +kernel) rfl rfl
theorem s20_36 {sc : Scr} {l0 l1 l2 l3 : Value} {x : Nat} {v : Int32} {stk : List Value} {h : AHp} {post : Option Value → AHp → Prop} : Ev sc 20 36 [l0, l1, l2, l3] (.int v :: .ref x :: stk) h post = oB (stf h x 2 8 (.int v)) (fun h2 => Ev sc 20 39 [l0, l1, l2, l3] stk h2 post) := e_put (i := 37) (r1 := 2) (r2 := 8) (by decide +kernel)
theorem s20_39 {sc : Scr} {l0 l1 l2 l3 : Value}  {stk : List Value} {h : AHp} {post : Option Value → AHp → Prop} : Ev sc 20 39 [l0, l1, l2, l3] stk h post = Ev sc 20 40 [l0, l1, l2, l3] (.int (0) :: stk) h post := e_1 (e := (39, .iconst 0, 0, 0)) (q := (40, [l0, l1, l2, l3], (.int (0) :: stk), h)) (by decide +kernel) rfl rfl
theorem s20_40 {sc : Scr} {l0 l1 l2 l3 : Value} {x : Int32} {stk : List Value} {h : AHp} {post : Option Value → AHp → Prop} : Ev sc 20 40 [l0, l1, l2, l3] (.int x :: stk) h post = Ev sc 20 41 [l0, l1, l2, .int x] stk h post := e_1 (e := (40, .istore_n 3, 0, 0)) (q := (41, [l0, l1, l2, .int x], stk, h)) (by decide +kernel) rfl rfl
theorem s20_41 {sc : Scr} {l0 l1 l2 : Value} {x : Int32} {stk : List Value} {h : AHp} {post : Option Value → AHp → Prop} : Ev sc 20 41 [l0, l1, l2, .int x] stk h post = Ev sc 20 42 [l0, l1, l2, .int x] (.int x :: stk) h post := e_1 (e := (41, .iload_n 3, 0, 0)) (q := (42, [l0, l1, l2, .int x], (.int x :: stk), h)) (by decide +kernel) rfl rfl
theorem s20_42 {sc : Scr} {l0 l1 l3 : Value} {x : Int32} {stk : List Value} {h : AHp} {post : Option Value → AHp → Prop} : Ev sc 20 42 [l0, l1, .int x, l3] stk h post = Ev sc 20 43 [l0, l1, .int x, l3] (.int x :: stk) h post := e_1 (e := (42, .iload_n 2, 0, 0)) (q := (43, [l0, l1, .int x, l3], (.int x :: stk), h)) (by decide +kernel) rfl rfl
theorem s20_43 {sc : Scr} {l0 l1 l2 l3 : Value} {x z : Int32} {stk : List Value} {h : AHp} {post : Option Value → AHp → Prop} : Ev sc 20 43 [l0, l1, l2, l3] (.int z :: .int x :: stk) h post = (if z ≤ x then Ev sc 20 83 [l0, l1, l2, l3] stk h post else Ev sc 20 46 [l0, l1, l2, l3] stk h post) := e_icmp_ge (o := 40) (r1 := 0) (r2 := 0) 83 (by decide +kernel) rfl
theorem s20_46 {sc : Scr} {l1 l2 l3 : Value} {x : Nat} {stk : List Value} {h : AHp} {post : Option Value → AHp → Prop} : Ev sc 20 46 [.ref x, l1, l2, l3] stk h post = Ev sc 20 47 [.ref x, l1, l2, l3] (.ref x :: stk) h post := e_1 (e := (46, .aload_n 0, 0, 0)) (q := (47, [.ref x, l1, l2, l3], (.ref x :: stk), h)) (by decide +kernel) rfl rfl
theorem s20_47 {sc : Scr} {l0 l1 l2 : Value} {x : Int32} {stk : List Value} {h : AHp} {post : Option Value → AHp → Prop} : Ev sc 20 47 [l0, l1, l2, .int x] stk h post = Ev sc 20 48 [l0, l1, l2, .int x] (.int x :: stk) h post := e_1 (e := (47, .iload_n 3, 0, 0)) (q := (48, [l0, l1, l2, .int x], (.int x :: stk), h)) (by decide +kernel) rfl rfl
theorem s20_48 {sc : Scr} {l0 l1 l2 l3 : Value} {a0 : Int32}  {x : Nat} {h : AHp} {post : Option Value → AHp → Prop} (ho : isO h x 2) : Ev sc 20 48 [l0, l1, l2, l3] [.int a0, .ref x] h post = Call 22 [.ref x, .int a0] h (fun rv h2 => Ev sc 20 51 [l0, l1, l2, l3] (rv.toList ++ []) h2 post) := e_v (i := 60) (z := 22) (r2 := 0) (as := [.int a0]) (rest := []) (by decide +kernel) rfl rfl (Nat.le_of_ble_eq_true rfl) rfl ho
theorem s20_51 {sc : Scr} {l0 l1 l2 l3 : Value} {x : Int32} {stk : List Value} {h : AHp} {post : Option Value → AHp → Prop} : Ev sc 20 51 [l0, l1, l2, l3] (.int x :: stk) h post = (if x = 0 then Ev sc 20 75 [l0, l1, l2, l3] stk h post else Ev sc 20 54 [l0, l1, l2, l3] stk h post) := e_if_eq (o := 24) (r1 := 0) (r2 := 0) 75 (by decide +kernel) rfl
theorem s20_54 {sc : Scr} {l1 l2 l3 : Value} {x : Nat} {stk : List Value} {h : AHp} {post : Option Value → AHp → Prop} : Ev sc 20 54 [.ref x, l1, l2, l3] stk h post = Ev sc 20 55 [.ref x, l1, l2, l3] (.ref x :: stk) h post := e_1 (e := (54, .aload_n 0, 0, 0)) (q := (55, [.ref x, l1, l2, l3], (.ref x :: stk), h)) (by decide +kernel) rfl rfl
theorem s20_55 {sc : Scr} {l0 l1 l2 : Value} {x : Int32} {stk : List Value} {h : AHp} {post : Option Value → AHp → Prop} : Ev sc 20 55 [l0, l1, l2, .int x] stk h post = Ev sc 20 56 [l0, l1, l2, .int x] (.int x :: stk) h post := e_1 (e := (55, .iload_n 3, 0, 0)) (q := (56, [l0, l1, l2, .int x], (.int x :: stk), h)) (by decide +kernel) rfl rfl
theorem s20_56 {sc : Scr} {l0 l1 l3 : Value} {x : Int32} {stk : List Value} {h : AHp} {post : Option Value → AHp → Prop} : Ev sc 20 56 [l0, l1, .int x, l3] stk h post = Ev sc 20 57 [l0, l1, .int x, l3] (.int x :: stk) h post := e_1 (e := (56, .iload_n 2, 0, 0)) (q := (57, [l0, l1, .int x, l3], (.int x :: stk), h)) (by decide +kernel) rfl rfl
theorem s20_57 {sc : Scr} {l0 l1 l2 l3 : Value}  {stk : List Value} {h : AHp} {post : Option Value → AHp → Prop} : Ev sc 20 57 [l0, l1, l2, l3] stk h post = Ev sc 20 58 [l0, l1, l2, l3] (.int (1) :: stk) h post := e_1 (e := (57, .iconst 1, 0, 0)) (q := (58, [l0, l1, l2, l3], (.int (1) :: stk), h)) (by decide +kernel) rfl rfl
theorem s20_58 {sc : Scr} {l0 l1 l2 l3 : Value} {x z : Int32} {stk : List Value} {h : AHp} {post : Option Value → AHp → Prop} : Ev sc 20 58 [l0, l1, l2, l3] (.int z :: .int x :: stk) h post = Ev sc 20 59 [l0, l1, l2, l3] (.int (x - z) :: stk) h post := e_1 (e := (58, .isub, 0, 0)) (q := (59, [l0, l1, l2, l3], (.int (x - z) :: stk), h)) (by decide +kernel) rfl rfl
theorem s20_59 {sc : Scr} {l0 l1 l2 l3 : Value} {x z : Int32} {stk : List Value} {h : AHp} {post : Option Value → AHp → Prop} : Ev sc 20 59 [l0, l1, l2, l3] (.int z :: .int x :: stk) h post = (if ¬ x = z then Ev sc 20 67 [l0, l1, l2, l3] stk h post else Ev sc 20 62 [l0, l1, l2, l3] stk h post) := e_icmp_ne (o := 8) (r1 := 0) (r2 := 0) 67 (by decide +kernel) rfl
theorem s20_62 {sc : Scr} {l0 l1 l2 l3 : Value}  {stk : List Value} {h : AHp} {post : Option Value → AHp → Prop} : Ev sc 20 62 [l0, l1, l2, l3] stk h post = Ev sc 20 64 [l0, l1, l2, l3] (.int (59) :: stk) h post := e_1 (e := (62, .bipush 59, 0, 0)) (q := (64, [l0, l1, l2, l3], (.int (59) :: stk), h)) (by decide +kernel) rfl rfl
theorem s20_64 {sc : Scr} {l0 l1 l2 l3 : Value}  {stk : List Value} {h : AHp} {post : Option Value → AHp → Prop} : Ev sc 20 64 [l0, l1, l2, l3] stk h post = Ev sc 20 69 [l0, l1, l2, l3] stk h post := e_1 (e := (64, .goto 5, 0, 0)) (q := (69, [l0, l1, l2, l3], stk, h)) (by decide +kernel) rfl rfl
theorem s20_67 {sc : Scr} {l0 l1 l2 l3 : Value}  {stk : List Value} {h : AHp} {post : Option Value → AHp → Prop} : Ev sc 20 67 [l0, l1, l2, l3] stk h post = Ev sc 20 69 [l0, l1, l2, l3] (.int (44) :: stk) h post := e_1 (e := (67, .bipush 44, 0, 0)) (q := (69, [l0, l1, l2, l3], (.int (44) :: stk), h)) (by decide +kernel) rfl rfl
theorem s20_69 {sc : Scr} {l0 l1 l2 l3 : Value} {a0 : Int32}  {x : Nat} {h : AHp} {post : Option Value → AHp → Prop} (ho : isO h x 2) : Ev sc 20 69 [l0, l1, l2, l3] [.int a0, .ref x] h post = Call 23 [.ref x, .int a0] h (fun rv h2 => Ev sc 20 72 [l0, l1, l2, l3] (rv.toList ++ []) h2 post) := e_v (i := 63) (z := 23) (r2 := 0) (as := [.int a0]) (rest := []) (by decide +kernel) rfl rfl (Nat.le_of_ble_eq_true rfl) rfl ho
theorem s20_72 {sc : Scr} {l0 l1 l2 l3 : Value} {x : Int32} {stk : List Value} {h : AHp} {post : Option Value → AHp → Prop} : Ev sc 20 72 [l0, l1, l2, l3] (.int x :: stk) h post = (if ¬ x = 0 then Ev sc 20 77 [l0, l1, l2, l3] stk h post else Ev sc 20 75 [l0, l1, l2, l3] stk h post) := e_if_ne (o := 5) (r1 := 0) (r2 := 0) 77 (by decide +kernel) rfl
theorem s20_75 {sc : Scr} {l0 l1 l2 l3 : Value}  {stk : List Value} {h : AHp} {post : Option Value → AHp → Prop} : Ev sc 20 75 [l0, l1, l2, l3] stk h post = Ev sc 20 76 [l0, l1, l2, l3] (.int (0) :: stk) h post := e_1 (e := (75, .iconst 0, 0, 0)) (q := (76, [l0, l1, l2, l3], (.int (0) :: stk), h)) (by decide +kernel) rfl rfl
theorem s20_76 {sc : Scr} {l0 l1 l2 l3 : Value} {x : Int32} {h : AHp} {post : Option Value → AHp → Prop} : Ev sc 20 76 [l0, l1, l2, l3] [.int x] h post = ((x = 0 ∨ x = 1) ∧ post (some (.int x)) h) := e_retb (r1 := 0) (r2 := 0) (by decide +kernel) rfl
theorem s20_77 {sc : Scr} {l0 l1 l2 : Value} {x : Int32} {stk : List Value} {h : AHp} {post : Option Value → AHp → Prop} : Ev sc 20 77 [l0, l1, l2, .int x] stk h post = Ev sc 20 80 [l0, l1, l2, .int (x + 1)] stk h post := e_1 (e := (77, .iinc 3 1, 0, 0)) (q := (80, [l0, l1, l2, .int (x + 1)], stk, h)) (by decide +kernel) rfl rfl
theorem s20_80 {sc : Scr} {l0 l1 l2 l3 : Value}  {stk : List Value} {h : AHp} {post : Option Value → AHp → Prop} : Ev sc 20 80 [l0, l1, l2, l3] stk h post = Ev sc 20 41 [l0, l1, l2, l3] stk h post := e_1 (e := (80, .goto (-39), 0, 0)) (q := (41, [l0, l1, l2, l3], stk, h)) (by decide +kernel) rfl rfl
theorem s20_83 {sc : Scr} {l0 l1 l2 l3 : Value}  {stk : List Value} {h : AHp} {post : Option Value → AHp → Prop} : Ev sc 20 83 [l0, l1, l2, l3] stk h post = Ev sc 20 84 [l0, l1, l2, l3] (.int (1) :: stk) h post := e_1 (e := (83, .iconst 1, 0, 0)) (q := (84, [l0, l1, l2, l3], (.int (1) :: stk), h)) (by decide +kernel) rfl rfl
theorem s20_84 {sc : Scr} {l0 l1 l2 l3 : Value} {x : Int32} {h : AHp} {post : Option Value → AHp → Prop} : Ev sc 20 84 [l0, l1, l2, l3] [.int x] h post = ((x = 0 ∨ x = 1) ∧ post (some (.int x)) h) := e_retb (r1 := 0) (r2 := 0) (by decide +kernel) rfl
-- 21 X2_numbersOf (I)I
theorem s21_e {a0 : Int32} {h : AHp} {post : Option Value → AHp → Prop} : Call 21 [.int a0] h post = Ev none 21 0 [.int a0] [] h post := rfl
theorem s21_0 {sc : Scr} {x : Int32} {stk : List Value} {h : AHp} {post : Option Value → AHp → Prop} : Ev sc 21 0 [.int x] stk h post = Ev sc 21 1 [.int x] (.int x :: stk) h post := e_1 (e := (0, .iload_n 0, 0, 0)) (q := (1, [.int x], (.int x :: stk), h)) (by decide +kernel) rfl rfl
theorem s21_1_97 {sc : Scr} {l0 : Value}  {stk : List Value} {h : AHp} {post : Option Value → AHp → Prop} : Ev sc 21 1 [l0] (.int (97) :: stk) h post = Ev sc 21 98 [l0] stk h post := e_1 (e := (1, .tableswitch 101 97 116 #[97, 101, 101, 101, 101, 101, 101, 101, 101, 101, 95, 101, 101, 95, 101, 99, 101, 97, 101, 97], 95, 0)) (q := (98, [l0], stk, h)) (by decide +kernel) rfl rfl
theorem s21_1_98 {sc : Scr} {l0 : Value}  {stk : List Value} {h : AHp} {post : Option Value → AHp → Prop} : Ev sc 21 1 [l0] (.int (98) :: stk) h post = Ev sc 21 102 [l0] stk h post := e_1 (e := (1, .tableswitch 101 97 116 #[97, 101, 101, 101, 101, 101, 101, 101, 101, 101, 95, 101, 101, 95, 101, 99, 101, 97, 101, 97], 95, 0)) (q := (102, [l0], stk, h)) (by decide +kernel) rfl rfl
theorem s21_1_99 {sc : Scr} {l0 : Value}  {stk : List Value} {h : AHp} {post : Option Value → AHp → Prop} : Ev sc 21 1 [l0] (.int (99) :: stk) h post = Ev sc 21 102 [l0] stk h post := e_1 (e := (1, .tableswitch 101 97 116 #[97, 101, 101, 101, 101, 101, 101, 101, 101, 101, 95, 101, 101, 95, 101, 99, 101, 97, 101, 97], 95, 0)) (q := (102, [l0], stk, h)) (by decide +kernel) rfl rfl
theorem s21_1_100 {sc : Scr} {l0 : Value}  {stk : List Value} {h : AHp} {post : Option Value → AHp → Prop} : Ev sc 21 1 [l0] (.int (100) :: stk) h post = Ev sc 21 102 [l0] stk h post := e_1 (e := (1, .tableswitch 101 97 116 #[97, 101, 101, 101, 101, 101, 101, 101, 101, 101, 95, 101, 101, 95, 101, 99, 101, 97, 101, 97], 95, 0)) (q := (102, [l0], stk, h)) (by decide +kernel) rfl rfl
theorem s21_1_101 {sc : Scr} {l0 : Value}  {stk : List Value} {h : AHp} {post : Option Value → AHp → Prop} : Ev sc 21 1 [l0] (.int (101) :: stk) h post = Ev sc 21 102 [l0] stk h post := e_1 (e := (1, .tableswitch 101 97 116 #[97, 101, 101, 101, 101, 101, 101, 101, 101, 101, 95, 101, 101, 95, 101, 99, 101, 97, 101, 97], 95, 0)) (q := (102, [l0], stk, h)) (by decide +kernel) rfl rfl
theorem s21_1_102 {sc : Scr} {l0 : Value}  {stk : List Value} {h : AHp} {post : Option Value → AHp → Prop} : Ev sc 21 1 [l0] (.int (102) :: stk) h post = Ev sc 21 102 [l0] stk h post := e_1 (e := (1, .tableswitch 101 97 116 #[97, 101, 101, 101, 101, 101, 101, 101, 101, 101, 95, 101, 101, 95, 101, 99, 101, 97, 101, 97], 95, 0)) (q := (102, [l0], stk, h)) (by decide +kernel) rfl rfl
theorem s21_1_103 {sc : Scr} {l0 : Value}  {stk : List Value} {h : AHp} {post : Option Value → AHp → Prop} : Ev sc 21 1 [l0] (.int (103) :: stk) h post = Ev sc 21 102 [l0] stk h post := e_1 (e := (1, .tableswitch 101 97 116 #[97, 101, 101, 101, 101, 101, 101, 101, 101, 101, 95, 101, 101, 95, 101, 99, 101, 97, 101, 97], 95, 0)) (q := (102, [l0], stk, h)) (by decide +kernel) rfl rfl
theorem s21_1_104 {sc : Scr} {l0 : Value}  {stk : List Value} {h : AHp} {post : Option Value → AHp → Prop} : Ev sc 21 1 [l0] (.int (104) :: stk) h post = Ev sc 21 102 [l0] stk h post := e_1 (e := (1, .tableswitch 101 97 116 #[97, 101, 101, 101, 101, 101, 101, 101, 101, 101, 95, 101, 101, 95, 101, 99, 101, 97, 101, 97], 95, 0)) (q := (102, [l0], stk, h)) (by decide +kernel) rfl rfl
theorem s21_1_105 {sc : Scr} {l0 : Value}  {stk : List Value} {h : AHp} {post : Option Value → AHp → Prop} : Ev sc 21 1 [l0] (.int (105) :: stk) h post = Ev sc 21 102 [l0] stk h post := e_1 (e := (1, .tableswitch 101 97 116 #[97, 101, 101, 101, 101, 101, 101, 101, 101, 101, 95, 101, 101, 95, 101, 99, 101, 97, 101, 97], 95, 0)) (q := (102, [l0], stk, h)) (by decide +kernel) rfl rfl
theorem s21_1_106 {sc : Scr} {l0 : Value}  {stk : List Value} {h : AHp} {post : Option Value → AHp → Prop} : Ev sc 21 1 [l0] (.int (106) :: stk) h post = Ev sc 21 102 [l0] stk h post := e_1 (e := (1, .tableswitch 101 97 116 #[97, 101, 101, 101, 101, 101, 101, 101, 101, 101, 95, 101, 101, 95, 101, 99, 101, 97, 101, 97], 95, 0)) (q := (102, [l0], stk, h)) (by decide +kernel) rfl rfl
theorem s21_1_107 {sc : Scr} {l0 : Value}  {stk : List Value} {h : AHp} {post : Option Value → AHp → Prop} : Ev sc 21 1 [l0] (.int (107) :: stk) h post = Ev sc 21 96 [l0] stk h post := e_1 (e := (1, .tableswitch 101 97 116 #[97, 101, 101, 101, 101, 101, 101, 101, 101, 101, 95, 101, 101, 95, 101, 99, 101, 97, 101, 97], 95, 0)) (q := (96, [l0], stk, h)) (by decide +kernel) rfl rfl
theorem s21_1_108 {sc : Scr} {l0 : Value}  {stk : List Value} {h : AHp} {post : Option Value → AHp → Prop} : Ev sc 21 1 [l0] (.int (108) :: stk) h post = Ev sc 21 102 [l0] stk h post := e_1 (e := (1, .tableswitch 101 97 116 #[97, 101, 101, 101, 101, 101, 101, 101, 101, 101, 95, 101, 101, 95, 101, 99, 101, 97, 101, 97], 95, 0)) (q := (102, [l0], stk, h)) (by decide +kernel) rfl rfl
theorem s21_1_109 {sc : Scr} {l0 : Value}  {stk : List Value} {h : AHp} {post : Option Value → AHp → Prop} : Ev sc 21 1 [l0] (.int (109) :: stk) h post = Ev sc 21 102 [l0] stk h post := e_1 (e := (1, .tableswitch 101 97 116 #[97, 101, 101, 101, 101, 101, 101, 101, 101, 101, 95, 101, 101, 95, 101, 99, 101, 97, 101, 97], 95, 0)) (q := (102, [l0], stk, h)) (by decide +kernel) rfl rfl
theorem s21_1_110 {sc : Scr} {l0 : Value}  {stk : List Value} {h : AHp} {post : Option Value → AHp → Prop} : Ev sc 21 1 [l0] (.int (110) :: stk) h post = Ev sc 21 96 [l0] stk h post := e_1 (e := (1, .tableswitch 101 97 116 #[97, 101, 101, 101, 101, 101, 101, 101, 101, 101, 95, 101, 101, 95, 101, 99, 101, 97, 101, 97], 95, 0)) (q := (96, [l0], stk, h)) (by decide +kernel) rfl rfl
theorem s21_1_111 {sc : Scr} {l0 : Value}  {stk : List Value} {h : AHp} {post : Option Value → AHp → Prop} : Ev sc 21 1 [l0] (.int (111) :: stk) h post = Ev sc 21 102 [l0] stk h post := e_1 (e := (1, .tableswitch 101 97 116 #[97, 101, 101, 101, 101, 101, 101, 101, 101, 101, 95, 101, 101, 95, 101, 99, 101, 97, 101, 97], 95, 0)) (q := (102, [l0], stk, h)) (by decide +kernel) rfl rfl
theorem s21_1_112 {sc : Scr} {l0 : Value}  {stk : List Value} {h : AHp} {post : Option Value → AHp → Prop} : Ev sc 21 1 [l0] (.int (112) :: stk) h post = Ev sc 21 100 [l0] stk h post := e_1 (e := (1, .tableswitch 101 97 116 #[97, 101, 101, 101, 101, 101, 101, 101, 101, 101, 95, 101, 101, 95, 101, 99, 101, 97, 101, 97], 95, 0)) (q := (100, [l0], stk, h)) (by decide +kernel) rfl rfl
theorem s21_1_113 {sc : Scr} {l0 : Value}  {stk : List Value} {h : AHp} {post : Option Value → AHp → Prop} : Ev sc 21 1 [l0] (.int (113) :: stk) h post = Ev sc 21 102 [l0] stk h post := e_1 (e := (1, .tableswitch 101 97 116 #[97, 101, 101, 101, 101, 101, 101, 101, 101, 101, 95, 101, 101, 95, 101, 99, 101, 97, 101, 97], 95, 0)) (q := (102, [l0], stk, h)) (by decide +kernel) rfl rfl
theorem s21_1_114 {sc : Scr} {l0 : Value}  {stk : List Value} {h : AHp} {post : Option Value → AHp → Prop} : Ev sc 21 1 [l0] (.int (114) :: stk) h post = Ev sc 21 98 [l0] stk h post := e_1 (e := (1, .tableswitch 101 97 116 #[97, 101, 101, 101, 101, 101, 101, 101, 101, 101, 95, 101, 101, 95, 101, 99, 101, 97, 101, 97], 95, 0)) (q := (98, [l0], stk, h)) (by decide +kernel) rfl rfl
theorem s21_1_115 {sc : Scr} {l0 : Value}  {stk : List Value} {h : AHp} {post : Option Value → AHp → Prop} : Ev sc 21 1 [l0] (.int (115) :: stk) h post = Ev sc 21 102 [l0] stk h post := e_1 (e := (1, .tableswitch 101 97 116 #[97, 101, 101, 101, 101, 101, 101, 101, 101, 101, 95, 101, 101, 95, 101, 99, 101, 97, 101, 97], 95, 0)) (q := (102, [l0], stk, h)) (by decide +kernel) rfl rfl
theorem s21_1_116 {sc : Scr} {l0 : Value}  {stk : List Value} {h : AHp} {post : Option Value → AHp → Prop} : Ev sc 21 1 [l0] (.int (116) :: stk) h post = Ev sc 21 98 [l0] stk h post := e_1 (e := (1, .tableswitch 101 97 116 #[97, 101, 101, 101, 101, 101, 101, 101, 101, 101, 95, 101, 101, 95, 101, 99, 101, 97, 101, 97], 95, 0)) (q := (98, [l0], stk, h)) (by decide +kernel) rfl rfl
theorem s21_1_d {sc : Scr} {l0 : Value} {x : Int32} {stk : List Value} {h : AHp} {post : Option Value → AHp → Prop} (hx : x.toInt < 97 ∨ 116 < x.toInt) : Ev sc 21 1 [l0] (.int x :: stk) h post = Ev sc 21 102 [l0] stk h post := e_1 (e := (1, .tableswitch 101 97 116 #[97, 101, 101, 101, 101, 101, 101, 101, 101, 101, 95, 101, 101, 95, 101, 99, 101, 97, 101, 97], 95, 0)) (q := (102, [l0], stk, h)) (by decide +kernel) rfl (tsw_d hx rfl)
theorem s21_96 {sc : Scr} {l0 : Value}  {stk : List Value} {h : AHp} {post : Option Value → AHp → Prop} : Ev sc 21 96 [l0] stk h post = Ev sc 21 97 [l0] (.int (1) :: stk) h post := e_1 (e := (96, .iconst 1, 0, 0)) (q := (97, [l0], (.int (1) :: stk), h)) (by decide +kernel) rfl rfl
theorem s21_97 {sc : Scr} {l0 : Value} {x : Int32} {h : AHp} {post : Option Value → AHp → Prop} : Ev sc 21 97 [l0] [.int x] h post = post (some (.int x)) h := e_r (e := (97, .ireturn, 0, 0)) (by decide +kernel) rfl rfl
theorem s21_98 {sc : Scr} {l0 : Value}  {stk : List Value} {h : AHp} {post : Option Value → AHp → Prop} : Ev sc 21 98 [l0] stk h post = Ev sc 21 99 [l0] (.int (2) :: stk) h post := e_1 (e := (98, .iconst 2, 0, 0)) (q := (99, [l0], (.int (2) :: stk), h)) (by decide +kernel) rfl rfl
theorem s21_99 {sc : Scr} {l0 : Value} {x : Int32} {h : AHp} {post : Option Value → AHp → Prop} : Ev sc 21 99 [l0] [.int x] h post = post (some (.int x)) h := e_r (e := (99, .ireturn, 0, 0)) (by decide +kernel) rfl rfl
theorem s21_100 {sc : Scr} {l0 : Value}  {stk : List Value} {h : AHp} {post : Option Value → AHp → Prop} : Ev sc 21 100 [l0] stk h post = Ev sc 21 101 [l0] (.int (3) :: stk) h post := e_1 (e := (100, .iconst 3, 0, 0)) (q := (101, [l0], (.int (3) :: stk), h)) (by decide +kernel) rfl rfl
theorem s21_101 {sc : Scr} {l0 : Value} {x : Int32} {h : AHp} {post : Option Value → AHp → Prop} : Ev sc 21 101 [l0] [.int x] h post = post (some (.int x)) h := e_r (e := (101, .ireturn, 0, 0)) (by decide +kernel) rfl rfl
theorem s21_102 {sc : Scr} {l0 : Value}  {stk : List Value} {h : AHp} {post : Option Value → AHp → Prop} : Ev sc 21 102 [l0] stk h post = Ev sc 21 103 [l0] (.int (0) :: stk) h post := e_1 (e := (102, .iconst 0, 0, 0)) (q := (103, [l0], (.int (0) :: stk), h)) (by decide +kernel) rfl rfl
theorem s21_103 {sc : Scr} {l0 : Value} {x : Int32} {h : AHp} {post : Option Value → AHp → Prop} : Ev sc 21 103 [l0] [.int x] h post = post (some (.int x)) h := e_r (e := (103, .ireturn, 0, 0)) (by decide +kernel) rfl rfl
-- 22 X2_readNumber (I)Z
theorem s22_e {a0 : Nat} {a1 : Int32} {h : AHp} {post : Option Value → AHp → Prop} : Call 22 [.ref a0, .int a1] h post = Ev none 22 0 [.ref a0, .int a1, .long 0, .long 0] [] h post := rfl
theorem s22_0 {sc : Scr} {l0 l1 l2 l3 : Value}  {stk : List Value} {h : AHp} {post : Option Value → AHp → Prop} : Ev sc 22 0 [l0, l1, l2, l3] stk h post = Ev sc 22 1 [l0, l1, l2, l3] (.int (0) :: stk) h post := e_1 (e := (0, .iconst 0, 0, 0)) (q := (1, [l0, l1, l2, l3], (.int (0) :: stk), h)) (by decide +kernel) rfl rfl
theorem s22_1 {sc : Scr} {l0 l1 l2 l3 : Value} {x : Int32} {stk : List Value} {h : AHp} {post : Option Value → AHp → Prop} : Ev sc 22 1 [l0, l1, l2, l3] (.int x :: stk) h post = Ev sc 22 2 [l0, l1, .int x, l3] stk h post := e_1 (e := (1, .istore_n 2, 0, 0)) (q := (2, [l0, l1, .int x, l3], stk, h)) (by decide +kernel) rfl rfl
theorem s22_2 {sc : Scr} {l0 l1 l2 l3 : Value}  {stk : List Value} {h : AHp} {post : Option Value → AHp → Prop} : Ev sc 22 2 [l0, l1, l2, l3] stk h post = Ev sc 22 3 [l0, l1, l2, l3] (.int (0) :: stk) h post := e_1 (e := (2, .iconst 0, 0, 0)) (q := (3, [l0, l1, l2, l3], (.int (0) :: stk), h)) (by decide +kernel) rfl rfl
theorem s22_3 {sc : Scr} {l0 l1 l2 l3 : Value} {x : Int32} {stk : List Value} {h : AHp} {post : Option Value → AHp → Prop} : Ev sc 22 3 [l0, l1, l2, l3] (.int x :: stk) h post = Ev sc 22 4 [l0, l1, l2, .int x] stk h post := e_1 (e := (3, .istore_n 3, 0, 0)) (q := (4, [l0, l1, l2, .int x], stk, h)) (by decide +kernel) rfl rfl
theorem s22_4 {sc : Scr} {l0 l1 l3 : Value} {x : Int32} {stk : List Value} {h : AHp} {post : Option Value → AHp → Prop} : Ev sc 22 4 [l0, l1, .int x, l3] stk h post = Ev sc 22 5 [l0, l1, .int x, l3] (.int x :: stk) h post := e_1 (e := (4, .iload_n 2, 0, 0)) (q := (5, [l0, l1, .int x, l3], (.int x :: stk), h)) (by decide +kernel) rfl rfl
theorem s22_5 {sc : Scr} {l0 l1 l2 l3 : Value}  {stk : List Value} {h : AHp} {post : Option Value → AHp → Prop} : Ev sc 22 5 [l0, l1, l2, l3] stk h post = Ev sc 22 6 [l0, l1, l2, l3] (.int (3) :: stk) h post := e_1 (e := (5, .iconst 3, 0, 0)) (q := (6, [l0, l1, l2, l3], (.int (3) :: stk), h)) (by decide +kernel) rfl rfl
theorem s22_6 {sc : Scr} {l0 l1 l2 l3 : Value} {x z : Int32} {stk : List Value} {h : AHp} {post : Option Value → AHp → Prop} : Ev sc 22 6 [l0, l1, l2, l3] (.int z :: .int x :: stk) h post = (if z ≤ x then Ev sc 22 73 [l0, l1, l2, l3] stk h post else Ev sc 22 9 [l0, l1, l2, l3] stk h post) := e_icmp_ge (o := 67) (r1 := 0) (r2 := 0) 73 (by decide +kernel) rfl
theorem s22_9 {sc : Scr} {l1 l2 l3 : Value} {x : Nat} {stk : List Value} {h : AHp} {post : Option Value → AHp → Prop} : Ev sc 22 9 [.ref x, l1, l2, l3] stk h post = Ev sc 22 10 [.ref x, l1, l2, l3] (.ref x :: stk) h post := e_1 (e := (9, .aload_n 0, 0, 0)) (q := (10, [.ref x, l1, l2, l3], (.ref x :: stk), h)) (by decide +kernel) rfl rfl
theorem s22_10 {sc : Scr} {l0 l1 l2 l3 : Value} {x : Nat} {stk : List Value} {h : AHp} {post : Option Value → AHp → Prop} : Ev sc 22 10 [l0, l1, l2, l3] (.ref x :: stk) h post = oB (fldv h x 2 8) (fun v => Ev sc 22 13 [l0, l1, l2, l3] (v :: stk) h post) := e_get (i := 37) (r1 := 2) (r2 := 8) (by decide +kernel)
theorem s22_13 {sc : Scr} {l1 l2 l3 : Value} {x : Nat} {stk : List Value} {h : AHp} {post : Option Value → AHp → Prop} : Ev sc 22 13 [.ref x, l1, l2, l3] stk h post = Ev sc 22 14 [.ref x, l1, l2, l3] (.ref x :: stk) h post := e_1 (e := (13, .aload_n 0, 0, 0)) (q := (14, [.ref x, l1, l2, l3], (.ref x :: stk), h)) (by decide +kernel) rfl rfl
theorem s22_14 {sc : Scr} {l0 l1 l2 l3 : Value} {x : Nat} {stk : List Value} {h : AHp} {post : Option Value → AHp → Prop} : Ev sc 22 14 [l0, l1, l2, l3] (.ref x :: stk) h post = oB (fldv h x 2 1) (fun v => Ev sc 22 17 [l0, l1, l2, l3] (v :: stk) h post) := e_get (i := 15) (r1 := 2) (r2 := 1) (by decide +kernel)
theorem s22_17 {sc : Scr} {l0 l1 l2 l3 : Value} {x z : Int32} {stk : List Value} {h : AHp} {post : Option Value → AHp → Prop} : Ev sc 22 17 [l0, l1, l2, l3] (.int z :: .int x :: stk) h post = (if z ≤ x then Ev sc 22 73 [l0, l1, l2, l3] stk h post else Ev sc 22 20 [l0, l1, l2, l3] stk h post) := e_icmp_ge (o := 56) (r1 := 0) (r2 := 0) 73 (by decide +kernel) rfl
theorem s22_20 {sc : Scr} {l1 l2 l3 : Value} {x : Nat} {stk : List Value} {h : AHp} {post : Option Value → AHp → Prop} : Ev sc 22 20 [.ref x, l1, l2, l3] stk h post = Ev sc 22 21 [.ref x, l1, l2, l3] (.ref x :: stk) h post := e_1 (e := (20, .aload_n 0, 0, 0)) (q := (21, [.ref x, l1, l2, l3], (.ref x :: stk), h)) (by decide +kernel) rfl rfl
theorem s22_21 {sc : Scr} {l0 l1 l2 l3 : Value} {x : Nat} {stk : List Value} {h : AHp} {post : Option Value → AHp → Prop} : Ev sc 22 21 [l0, l1, l2, l3] (.ref x :: stk) h post = oB (fldv h x 2 0) (fun v => Ev sc 22 24 [l0, l1, l2, l3] (v :: stk) h post) := e_get (i := 9) (r1 := 2) (r2 := 0) (by decide +kernel)
theorem s22_24 {sc : Scr} {l1 l2 l3 : Value} {x : Nat} {stk : List Value} {h : AHp} {post : Option Value → AHp → Prop} : Ev sc 22 24 [.ref x, l1, l2, l3] stk h post = Ev sc 22 25 [.ref x, l1, l2, l3] (.ref x :: stk) h post := e_1 (e := (24, .aload_n 0, 0, 0)) (q := (25, [.ref x, l1, l2, l3], (.ref x :: stk), h)) (by decide +kernel) rfl rfl
theorem s22_25 {sc : Scr} {l0 l1 l2 l3 : Value} {x : Nat} {stk : List Value} {h : AHp} {post : Option Value → AHp → Prop} : Ev sc 22 25 [l0, l1, l2, l3] (.ref x :: stk) h post = oB (fldv h x 2 8) (fun v => Ev sc 22 28 [l0, l1, l2, l3] (v :: stk) h post) := e_get (i := 37) (r1 := 2) (r2 := 8) (by decide +kernel)
theorem s22_28 {sc : Scr} {l0 l1 l2 l3 : Value} {x : Nat} {j : Int32} {stk : List Value} {h : AHp} {post : Option Value → AHp → Prop} : Ev sc 22 28 [l0, l1, l2, l3] (.int j :: .ref x :: stk) h post = oB (ldi h x j) (fun v => Ev sc 22 29 [l0, l1, l2, l3] (.int v :: stk) h post) := e_ldi (r1 := 0) (r2 := 0) (by decide +kernel)
theorem s22_29 {sc : Scr} {l0 l1 l2 l3 : Value}  {stk : List Value} {h : AHp} {post : Option Value → AHp → Prop} : Ev sc 22 29 [l0, l1, l2, l3] stk h post = Ev sc 22 31 [l0, l1, l2, l3] (.int (48) :: stk) h post := e_1 (e := (29, .bipush 48, 0, 0)) (q := (31, [l0, l1, l2, l3], (.int (48) :: stk), h)) (by decide +kernel) rfl rfl
theorem s22_31 {sc : Scr} {l0 l1 l2 l3 : Value}  {stk : List Value} {h : AHp} {post : Option Value → AHp → Prop} : Ev sc 22 31 [l0, l1, l2, l3] stk h post = Ev sc 22 33 [l0, l1, l2, l3] (.int (57) :: stk) h post := e_1 (e := (31, .bipush 57, 0, 0)) (q := (33, [l0, l1, l2, l3], (.int (57) :: stk), h)) (by decide +kernel) rfl rfl
theorem s22_33 {sc : Scr} {l0 l1 l2 l3 : Value} {a0 : Int32} {a1 : Int32} {a2 : Int32}  {h : AHp} {post : Option Value → AHp → Prop} : Ev sc 22 33 [l0, l1, l2, l3] [.int a0, .int a1, .int a2] h post = Call 85 [.int a2, .int a1, .int a0] h (fun rv h2 => Ev sc 22 36 [l0, l1, l2, l3] (rv.toList ++ []) h2 post) := e_s (i := 67) (z := 85) (r2 := 1) (as := [.int a2, .int a1, .int a0]) (rest := []) (by decide +kernel) rfl rfl rfl (Nat.le_of_ble_eq_true rfl) rfl
theorem s22_36 {sc : Scr} {l0 l1 l2 l3 : Value} {x : Int32} {stk : List Value} {h : AHp} {post : Option Value → AHp → Prop} : Ev sc 22 36 [l0, l1, l2, l3] (.int x :: stk) h post = (if x = 0 then Ev sc 22 73 [l0, l1, l2, l3] stk h post else Ev sc 22 39 [l0, l1, l2, l3] stk h post) := e_if_eq (o := 37) (r1 := 0) (r2 := 0) 73 (by decide +kernel) rfl
theorem s22_39 {sc : Scr} {l0 l1 l2 : Value} {x : Int32} {stk : List Value} {h : AHp} {post : Option Value → AHp → Prop} : Ev sc 22 39 [l0, l1, l2, .int x] stk h post = Ev sc 22 40 [l0, l1, l2, .int x] (.int x :: stk) h post := e_1 (e := (39, .iload_n 3, 0, 0)) (q := (40, [l0, l1, l2, .int x], (.int x :: stk), h)) (by decide +kernel) rfl rfl
theorem s22_40 {sc : Scr} {l0 l1 l2 l3 : Value}  {stk : List Value} {h : AHp} {post : Option Value → AHp → Prop} : Ev sc 22 40 [l0, l1, l2, l3] stk h post = Ev sc 22 42 [l0, l1, l2, l3] (.int (10) :: stk) h post := e_1 (e := (40, .bipush 10, 0, 0)) (q := (42, [l0, l1, l2, l3], (.int (10) :: stk), h)) (by decide +kernel) rfl rfl
theorem s22_42 {sc : Scr} {l0 l1 l2 l3 : Value} {x z : Int32} {stk : List Value} {h : AHp} {post : Option Value → AHp → Prop} : Ev sc 22 42 [l0, l1, l2, l3] (.int z :: .int x :: stk) h post = Ev sc 22 43 [l0, l1, l2, l3] (.int (x * z) :: stk) h post := e_1 (e := (42, .imul, 0, 0)) (q := (43, [l0, l1, l2, l3], (.int (x * z) :: stk), h)) (by decide +kernel) rfl rfl
theorem s22_43 {sc : Scr} {l1 l2 l3 : Value} {x : Nat} {stk : List Value} {h : AHp} {post : Option Value → AHp → Prop} : Ev sc 22 43 [.ref x, l1, l2, l3] stk h post = Ev sc 22 44 [.ref x, l1, l2, l3] (.ref x :: stk) h post := e_1 (e := (43, .aload_n 0, 0, 0)) (q := (44, [.ref x, l1, l2, l3], (.ref x :: stk), h)) (by decide +kernel) rfl rfl
theorem s22_44 {sc : Scr} {l0 l1 l2 l3 : Value} {x : Nat} {stk : List Value} {h : AHp} {post : Option Value → AHp → Prop} : Ev sc 22 44 [l0, l1, l2, l3] (.ref x :: stk) h post = oB (fldv h x 2 0) (fun v => Ev sc 22 47 [l0, l1, l2, l3] (v :: stk) h post) := e_get (i := 9) (r1 := 2) (r2 := 0) (by decide +kernel)
theorem s22_47 {sc : Scr} {l1 l2 l3 : Value} {x : Nat} {stk : List Value} {h : AHp} {post : Option Value → AHp → Prop} : Ev sc 22 47 [.ref x, l1, l2, l3] stk h post = Ev sc 22 48 [.ref x, l1, l2, l3] (.ref x :: stk) h post := e_1 (e := (47, .aload_n 0, 0, 0)) (q := (48, [.ref x, l1, l2, l3], (.ref x :: stk), h)) (by decide +kernel) rfl rfl
theorem s22_48 {sc : Scr} {l0 l1 l2 l3 : Value} {x : Nat} {stk : List Value} {h : AHp} {post : Option Value → AHp → Prop} : Ev sc 22 48 [l0, l1, l2, l3] (.ref x :: stk) h post = oB (fldv h x 2 8) (fun v => Ev sc 22 51 [l0, l1, l2, l3] (v :: stk) h post) := e_get (i := 37) (r1 := 2) (r2 := 8) (by decide +kernel)
theorem s22_51 {sc : Scr} {l0 l1 l2 l3 : Value} {x : Nat} {j : Int32} {stk : List Value} {h : AHp} {post : Option Value → AHp → Prop} : Ev sc 22 51 [l0, l1, l2, l3] (.int j :: .ref x :: stk) h post = oB (ldi h x j) (fun v => Ev sc 22 52 [l0, l1, l2, l3] (.int v :: stk) h post) := e_ldi (r1 := 0) (r2 := 0) (by decide +kernel)
theorem s22_52 {sc : Scr} {l0 l1 l2 l3 : Value} {x z : Int32} {stk : List Value} {h : AHp} {post : Option Value → AHp → Prop} : Ev sc 22 52 [l0, l1, l2, l3] (.int z :: .int x :: stk) h post = Ev sc 22 53 [l0, l1, l2, l3] (.int (x + z) :: stk) h post := e_1 (e := (52, .iadd, 0, 0)) (q := (53, [l0, l1, l2, l3], (.int (x + z) :: stk), h)) (by decide +kernel) rfl rfl
theorem s22_53 {sc : Scr} {l0 l1 l2 l3 : Value}  {stk : List Value} {h : AHp} {post : Option Value → AHp → Prop} : Ev sc 22 53 [l0, l1, l2, l3] stk h post = Ev sc 22 55 [l0, l1, l2, l3] (.int (48) :: stk) h post := e_1 (e := (53, .bipush 48, 0, 0)) (q := (55, [l0, l1, l2, l3], (.int (48) :: stk), h)) (by decide +kernel) rfl rfl
theorem s22_55 {sc : Scr} {l0 l1 l2 l3 : Value} {x z : Int32} {stk : List Value} {h : AHp} {post : Option Value → AHp → Prop} : Ev sc 22 55 [l0, l1, l2, l3] (.int z :: .int x :: stk) h post = Ev sc 22 56 [l0, l1, l2, l3] (.int (x - z) :: stk) h post := e_1 (e := (55, .isub, 0, 0)) (q := (56, [l0, l1, l2, l3], (.int (x - z) :: stk), h)) (by decide +kernel) rfl rfl
theorem s22_56 {sc : Scr} {l0 l1 l2 l3 : Value} {x : Int32} {stk : List Value} {h : AHp} {post : Option Value → AHp → Prop} : Ev sc 22 56 [l0, l1, l2, l3] (.int x :: stk) h post = Ev sc 22 57 [l0, l1, l2, .int x] stk h post := e_1 (e := (56, .istore_n 3, 0, 0)) (q := (57, [l0, l1, l2, .int x], stk, h)) (by decide +kernel) rfl rfl
theorem s22_57 {sc : Scr} {l0 l1 l3 : Value} {x : Int32} {stk : List Value} {h : AHp} {post : Option Value → AHp → Prop} : Ev sc 22 57 [l0, l1, .int x, l3] stk h post = Ev sc 22 60 [l0, l1, .int (x + 1), l3] stk h post := e_1 (e := (57, .iinc 2 1, 0, 0)) (q := (60, [l0, l1, .int (x + 1), l3], stk, h)) (by decide +kernel) rfl rfl
theorem s22_60 {sc : Scr} {l1 l2 l3 : Value} {x : Nat} {stk : List Value} {h : AHp} {post : Option Value → AHp → Prop} : Ev sc 22 60 [.ref x, l1, l2, l3] stk h post = Ev sc 22 61 [.ref x, l1, l2, l3] (.ref x :: stk) h post := e_1 (e := (60, .aload_n 0, 0, 0)) (q := (61, [.ref x, l1, l2, l3], (.ref x :: stk), h)) (by decide +kernel) rfl rfl
theorem s22_61 {sc : Scr} {l0 l1 l2 l3 : Value} {x : Nat} {stk : List Value} {h : AHp} {post : Option Value → AHp → Prop} : Ev sc 22 61 [l0, l1, l2, l3] (.ref x :: stk) h post = Ev sc 22 62 [l0, l1, l2, l3] (.ref x :: .ref x :: stk) h post := e_1 (e := (61, .dup, 0, 0)) (q := (62, [l0, l1, l2, l3], (.ref x :: .ref x :: stk), h)) (by decide +kernel) rfl rfl
theorem s22_62 {sc : Scr} {l0 l1 l2 l3 : Value} {x : Nat} {stk : List Value} {h : AHp} {post : Option Value → AHp → Prop} : Ev sc 22 62 [l0, l1, l2, l3] (.ref x :: stk) h post = oB (fldv h x 2 8) (fun v => Ev sc 22 65 [l0, l1, l2, l3] (v :: stk) h post) := e_get (i := 37) (r1 := 2) (r2 := 8) (by decide +kernel)
theorem s22_65 {sc : Scr} {l0 l1 l2 l3 : Value}  {stk : List Value} {h : AHp} {post : Option Value → AHp → Prop} : Ev sc 22 65 [l0, l1, l2, l3] stk h post = Ev sc 22 66 [l0, l1, l2, l3] (.int (1) :: stk) h post := e_1 (e := (65, .iconst 1, 0, 0)) (q := (66, [l0, l1, l2, l3], (.int (1) :: stk), h)) (by decide +kernel) rfl rfl
theorem s22_66 {sc : Scr} {l0 l1 l2 l3 : Value} {x z : Int32} {stk : List Value} {h : AHp} {post : Option Value → AHp → Prop} : Ev sc 22 66 [l0, l1, l2, l3] (.int z :: .int x :: stk) h post = Ev sc 22 67 [l0, l1, l2, l3] (.int (x + z) :: stk) h post := e_1 (e := (66, .iadd, 0, 0)) (q := (67, [l0, l1, l2, l3], (.int (x + z) :: stk), h)) (by decide +kernel) rfl rfl
theorem s22_67 {sc : Scr} {l0 l1 l2 l3 : Value} {x : Nat} {v : Int32} {stk : List Value} {h : AHp} {post : Option Value → AHp → Prop} : Ev sc 22 67 [l0, l1, l2, l3] (.int v :: .ref x :: stk) h post = oB (stf h x 2 8 (.int v)) (fun h2 => Ev sc 22 70 [l0, l1, l2, l3] stk h2 post) := e_put (i := 37) (r1 := 2) (r2 := 8) (by decide +kernel)
theorem s22_70 {sc : Scr} {l0 l1 l2 l3 : Value}  {stk : List Value} {h : AHp} {post : Option Value → AHp → Prop} : Ev sc 22 70 [l0, l1, l2, l3] stk h post = Ev sc 22 4 [l0, l1, l2, l3] stk h post := e_1 (e := (70, .goto (-66), 0, 0)) (q := (4, [l0, l1, l2, l3], stk, h)) (by decide +kernel) rfl rfl
theorem s22_73 {sc : Scr} {l1 l2 l3 : Value} {x : Nat} {stk : List Value} {h : AHp} {post : Option Value → AHp → Prop} : Ev sc 22 73 [.ref x, l1, l2, l3] stk h post = Ev sc 22 74 [.ref x, l1, l2, l3] (.ref x :: stk) h post := e_1 (e := (73, .aload_n 0, 0, 0)) (q := (74, [.ref x, l1, l2, l3], (.ref x :: stk), h)) (by decide +kernel) rfl rfl
theorem s22_74 {sc : Scr} {l0 l1 l2 l3 : Value} {x : Nat} {stk : List Value} {h : AHp} {post : Option Value → AHp → Prop} : Ev sc 22 74 [l0, l1, l2, l3] (.ref x :: stk) h post = oB (fldv h x 2 7) (fun v => Ev sc 22 77 [l0, l1, l2, l3] (v :: stk) h post) := e_get (i := 34) (r1 := 2) (r2 := 7) (by decide +kernel)
theorem s22_77 {sc : Scr} {l0 l2 l3 : Value} {x : Int32} {stk : List Value} {h : AHp} {post : Option Value → AHp → Prop} : Ev sc 22 77 [l0, .int x, l2, l3] stk h post = Ev sc 22 78 [l0, .int x, l2, l3] (.int x :: stk) h post := e_1 (e := (77, .iload_n 1, 0, 0)) (q := (78, [l0, .int x, l2, l3], (.int x :: stk), h)) (by decide +kernel) rfl rfl
theorem s22_78 {sc : Scr} {l0 l1 l2 : Value} {x : Int32} {stk : List Value} {h : AHp} {post : Option Value → AHp → Prop} : Ev sc 22 78 [l0, l1, l2, .int x] stk h post = Ev sc 22 79 [l0, l1, l2, .int x] (.int x :: stk) h post := e_1 (e := (78, .iload_n 3, 0, 0)) (q := (79, [l0, l1, l2, .int x], (.int x :: stk), h)) (by decide +kernel) rfl rfl
theorem s22_79 {sc : Scr} {l0 l1 l2 l3 : Value} {x : Nat} {j v : Int32} {stk : List Value} {h : AHp} {post : Option Value → AHp → Prop} : Ev sc 22 79 [l0, l1, l2, l3] (.int v :: .int j :: .ref x :: stk) h post = oB (sti h x j v) (fun h2 => Ev sc 22 80 [l0, l1, l2, l3] stk h2 post) := e_sti (r1 := 0) (r2 := 0) (by decide +kernel)
theorem s22_80 {sc : Scr} {l0 l1 l3 : Value} {x : Int32} {stk : List Value} {h : AHp} {post : Option Value → AHp → Prop} : Ev sc 22 80 [l0, l1, .int x, l3] stk h post = Ev sc 22 81 [l0, l1, .int x, l3] (.int x :: stk) h post := e_1 (e := (80, .iload_n 2, 0, 0)) (q := (81, [l0, l1, .int x, l3], (.int x :: stk), h)) (by decide +kernel) rfl rfl
theorem s22_81 {sc : Scr} {l0 l1 l2 l3 : Value} {x : Int32} {stk : List Value} {h : AHp} {post : Option Value → AHp → Prop} : Ev sc 22 81 [l0, l1, l2, l3] (.int x :: stk) h post = (if x ≤ 0 then Ev sc 22 88 [l0, l1, l2, l3] stk h post else Ev sc 22 84 [l0, l1, l2, l3] stk h post) := e_if_le (o := 7) (r1 := 0) (r2 := 0) 88 (by decide +kernel) rfl
theorem s22_84 {sc : Scr} {l0 l1 l2 l3 : Value}  {stk : List Value} {h : AHp} {post : Option Value → AHp → Prop} : Ev sc 22 84 [l0, l1, l2, l3] stk h post = Ev sc 22 85 [l0, l1, l2, l3] (.int (1) :: stk) h post := e_1 (e := (84, .iconst 1, 0, 0)) (q := (85, [l0, l1, l2, l3], (.int (1) :: stk), h)) (by decide +kernel) rfl rfl
theorem s22_85 {sc : Scr} {l0 l1 l2 l3 : Value}  {stk : List Value} {h : AHp} {post : Option Value → AHp → Prop} : Ev sc 22 85 [l0, l1, l2, l3] stk h post = Ev sc 22 89 [l0, l1, l2, l3] stk h post := e_1 (e := (85, .goto 4, 0, 0)) (q := (89, [l0, l1, l2, l3], stk, h)) (by decide +kernel) rfl rfl
theorem s22_88 {sc : Scr} {l0 l1 l2 l3 : Value}  {stk : List Value} {h : AHp} {post : Option Value → AHp → Prop} : Ev sc 22 88 [l0, l1, l2, l3] stk h post = Ev sc 22 89 [l0, l1, l2, l3] (.int (0) :: stk) h post := e_1 (e := (88, .iconst 0, 0, 0)) (q := (89, [l0, l1, l2, l3], (.int (0) :: stk), h)) (by decide +kernel) rfl rfl
theorem s22_89 {sc : Scr} {l0 l1 l2 l3 : Value} {x : Int32} {h : AHp} {post : Option Value → AHp → Prop} : Ev sc 22 89 [l0, l1, l2, l3] [.int x] h post = ((x = 0 ∨ x = 1) ∧ post (some (.int x)) h) := e_retb (r1 := 0) (r2 := 0) (by decide +kernel) rfl
-- 23 X2_readSign (C)Z
theorem s23_e {a0 : Nat} {a1 : Int32} {h : AHp} {post : Option Value → AHp → Prop} : Call 23 [.ref a0, .int a1] h post = Ev none 23 0 [.ref a0, .int a1] [] h post := rfl
theorem s23_0 {sc : Scr} {l1 : Value} {x : Nat} {stk : List Value} {h : AHp} {post : Option Value → AHp → Prop} : Ev sc 23 0 [.ref x, l1] stk h post = Ev sc 23 1 [.ref x, l1] (.ref x :: stk) h post := e_1 (e := (0, .aload_n 0, 0, 0)) (q := (1, [.ref x, l1], (.ref x :: stk), h)) (by decide +kernel) rfl rfl
theorem s23_1 {sc : Scr} {l0 l1 : Value} {x : Nat} {stk : List Value} {h : AHp} {post : Option Value → AHp → Prop} : Ev sc 23 1 [l0, l1] (.ref x :: stk) h post = oB (fldv h x 2 8) (fun v => Ev sc 23 4 [l0, l1] (v :: stk) h post) := e_get (i := 37) (r1 := 2) (r2 := 8) (by decide +kernel)
theorem s23_4 {sc : Scr} {l1 : Value} {x : Nat} {stk : List Value} {h : AHp} {post : Option Value → AHp → Prop} : Ev sc 23 4 [.ref x, l1] stk h post = Ev sc 23 5 [.ref x, l1] (.ref x :: stk) h post := e_1 (e := (4, .aload_n 0, 0, 0)) (q := (5, [.ref x, l1], (.ref x :: stk), h)) (by decide +kernel) rfl rfl
theorem s23_5 {sc : Scr} {l0 l1 : Value} {x : Nat} {stk : List Value} {h : AHp} {post : Option Value → AHp → Prop} : Ev sc 23 5 [l0, l1] (.ref x :: stk) h post = oB (fldv h x 2 1) (fun v => Ev sc 23 8 [l0, l1] (v :: stk) h post) := e_get (i := 15) (r1 := 2) (r2 := 1) (by decide +kernel)
theorem s23_8 {sc : Scr} {l0 l1 : Value} {x z : Int32} {stk : List Value} {h : AHp} {post : Option Value → AHp → Prop} : Ev sc 23 8 [l0, l1] (.int z :: .int x :: stk) h post = (if z ≤ x then Ev sc 23 24 [l0, l1] stk h post else Ev sc 23 11 [l0, l1] stk h post) := e_icmp_ge (o := 16) (r1 := 0) (r2 := 0) 24 (by decide +kernel) rfl
theorem s23_11 {sc : Scr} {l1 : Value} {x : Nat} {stk : List Value} {h : AHp} {post : Option Value → AHp → Prop} : Ev sc 23 11 [.ref x, l1] stk h post = Ev sc 23 12 [.ref x, l1] (.ref x :: stk) h post := e_1 (e := (11, .aload_n 0, 0, 0)) (q := (12, [.ref x, l1], (.ref x :: stk), h)) (by decide +kernel) rfl rfl
theorem s23_12 {sc : Scr} {l0 l1 : Value} {x : Nat} {stk : List Value} {h : AHp} {post : Option Value → AHp → Prop} : Ev sc 23 12 [l0, l1] (.ref x :: stk) h post = oB (fldv h x 2 0) (fun v => Ev sc 23 15 [l0, l1] (v :: stk) h post) := e_get (i := 9) (r1 := 2) (r2 := 0) (by decide +kernel)
theorem s23_15 {sc : Scr} {l1 : Value} {x : Nat} {stk : List Value} {h : AHp} {post : Option Value → AHp → Prop} : Ev sc 23 15 [.ref x, l1] stk h post = Ev sc 23 16 [.ref x, l1] (.ref x :: stk) h post := e_1 (e := (15, .aload_n 0, 0, 0)) (q := (16, [.ref x, l1], (.ref x :: stk), h)) (by decide +kernel) rfl rfl
theorem s23_16 {sc : Scr} {l0 l1 : Value} {x : Nat} {stk : List Value} {h : AHp} {post : Option Value → AHp → Prop} : Ev sc 23 16 [l0, l1] (.ref x :: stk) h post = oB (fldv h x 2 8) (fun v => Ev sc 23 19 [l0, l1] (v :: stk) h post) := e_get (i := 37) (r1 := 2) (r2 := 8) (by decide +kernel)
theorem s23_19 {sc : Scr} {l0 l1 : Value} {x : Nat} {j : Int32} {stk : List Value} {h : AHp} {post : Option Value → AHp → Prop} : Ev sc 23 19 [l0, l1] (.int j :: .ref x :: stk) h post = oB (ldi h x j) (fun v => Ev sc 23 20 [l0, l1] (.int v :: stk) h post) := e_ldi (r1 := 0) (r2 := 0) (by decide +kernel)
theorem s23_20 {sc : Scr} {l0 : Value} {x : Int32} {stk : List Value} {h : AHp} {post : Option Value → AHp → Prop} : Ev sc 23 20 [l0, .int x] stk h post = Ev sc 23 21 [l0, .int x] (.int x :: stk) h post := e_1 (e := (20, .iload_n 1, 0, 0)) (q := (21, [l0, .int x], (.int x :: stk), h)) (by decide +kernel) rfl rfl
theorem s23_21 {sc : Scr} {l0 l1 : Value} {x z : Int32} {stk : List Value} {h : AHp} {post : Option Value → AHp → Prop} : Ev sc 23 21 [l0, l1] (.int z :: .int x :: stk) h post = (if x = z then Ev sc 23 26 [l0, l1] stk h post else Ev sc 23 24 [l0, l1] stk h post) := e_icmp_eq (o := 5) (r1 := 0) (r2 := 0) 26 (by decide +kernel) rfl
theorem s23_24 {sc : Scr} {l0 l1 : Value}  {stk : List Value} {h : AHp} {post : Option Value → AHp → Prop} : Ev sc 23 24 [l0, l1] stk h post = Ev sc 23 25 [l0, l1] (.int (0) :: stk) h post := e_1 (e := (24, .iconst 0, 0, 0)) (q := (25, [l0, l1], (.int (0) :: stk), h)) (by decide +kernel) rfl rfl
theorem s23_25 {sc : Scr} {l0 l1 : Value} {x : Int32} {h : AHp} {post : Option Value → AHp → Prop} : Ev sc 23 25 [l0, l1] [.int x] h post = ((x = 0 ∨ x = 1) ∧ post (some (.int x)) h) := e_retb (r1 := 0) (r2 := 0) (by decide +kernel) rfl
theorem s23_26 {sc : Scr} {l1 : Value} {x : Nat} {stk : List Value} {h : AHp} {post : Option Value → AHp → Prop} : Ev sc 23 26 [.ref x, l1] stk h post = Ev sc 23 27 [.ref x, l1] (.ref x :: stk) h post := e_1 (e := (26, .aload_n 0, 0, 0)) (q := (27, [.ref x, l1], (.ref x :: stk), h)) (by decide +kernel) rfl rfl
theorem s23_27 {sc : Scr} {l0 l1 : Value} {x : Nat} {stk : List Value} {h : AHp} {post : Option Value → AHp → Prop} : Ev sc 23 27 [l0, l1] (.ref x :: stk) h post = Ev sc 23 28 [l0, l1] (.ref x :: .ref x :: stk) h post := e_1 (e := (27, .dup, 0, 0)) (q := (28, [l0, l1], (.ref x :: .ref x :: stk), h)) (by decide +kernel) rfl rfl
theorem s23_28 {sc : Scr} {l0 l1 : Value} {x : Nat} {stk : List Value} {h : AHp} {post : Option Value → AHp → Prop} : Ev sc 23 28 [l0, l1] (.ref x :: stk) h post = oB (fldv h x 2 8) (fun v => Ev sc 23 31 [l0, l1] (v :: stk) h post) := e_get (i := 37) (r1 := 2) (r2 := 8) (by decide +kernel)
theorem s23_31 {sc : Scr} {l0 l1 : Value}  {stk : List Value} {h : AHp} {post : Option Value → AHp → Prop} : Ev sc 23 31 [l0, l1] stk h post = Ev sc 23 32 [l0, l1] (.int (1) :: stk) h post := e_1 (e := (31, .iconst 1, 0, 0)) (q := (32, [l0, l1], (.int (1) :: stk), h)) (by decide +kernel) rfl rfl
theorem s23_32 {sc : Scr} {l0 l1 : Value} {x z : Int32} {stk : List Value} {h : AHp} {post : Option Value → AHp → Prop} : Ev sc 23 32 [l0, l1] (.int z :: .int x :: stk) h post = Ev sc 23 33 [l0, l1] (.int (x + z) :: stk) h post := e_1 (e := (32, .iadd, 0, 0)) (q := (33, [l0, l1], (.int (x + z) :: stk), h)) (by decide +kernel) rfl rfl
theorem s23_33 {sc : Scr} {l0 l1 : Value} {x : Nat} {v : Int32} {stk : List Value} {h : AHp} {post : Option Value → AHp → Prop} : Ev sc 23 33 [l0, l1] (.int v :: .ref x :: stk) h post = oB (stf h x 2 8 (.int v)) (fun h2 => Ev sc 23 36 [l0, l1] stk h2 post) := e_put (i := 37) (r1 := 2) (r2 := 8) (by decide +kernel)
theorem s23_36 {sc : Scr} {l0 l1 : Value}  {stk : List Value} {h : AHp} {post : Option Value → AHp → Prop} : Ev sc 23 36 [l0, l1] stk h post = Ev sc 23 37 [l0, l1] (.int (1) :: stk) h post := e_1 (e := (36, .iconst 1, 0, 0)) (q := (37, [l0, l1], (.int (1) :: stk), h)) (by decide +kernel) rfl rfl
theorem s23_37 {sc : Scr} {l0 l1 : Value} {x : Int32} {h : AHp} {post : Option Value → AHp → Prop} : Ev sc 23 37 [l0, l1] [.int x] h post = ((x = 0 ∨ x = 1) ∧ post (some (.int x)) h) := e_retb (r1 := 0) (r2 := 0) (by decide +kernel) rfl
-- 24 X2_doOrder (LPartedSums$State;)I
theorem s24_e {a0 : Nat} {a1 : Nat} {h : AHp} {post : Option Value → AHp → Prop} : Call 24 [.ref a0, .ref a1] h post = Ev none 24 0 [.ref a0, .ref a1] [] h post := rfl
theorem s24_0 {sc : Scr} {l1 : Value} {x : Nat} {stk : List Value} {h : AHp} {post : Option Value → AHp → Prop} : Ev sc 24 0 [.ref x, l1] stk h post = Ev sc 24 1 [.ref x, l1] (.ref x :: stk) h post := e_1 (e := (0, .aload_n 0, 0, 0)) (q := (1, [.ref x, l1], (.ref x :: stk), h)) (by decide +kernel) rfl rfl
theorem s24_1 {sc : Scr} {l0 l1 : Value} {x : Nat} {stk : List Value} {h : AHp} {post : Option Value → AHp → Prop} : Ev sc 24 1 [l0, l1] (.ref x :: stk) h post = oB (fldv h x 2 6) (fun v => Ev sc 24 4 [l0, l1] (v :: stk) h post) := e_get (i := 31) (r1 := 2) (r2 := 6) (by decide +kernel)
theorem s24_4_97 {sc : Scr} {l0 l1 : Value}  {stk : List Value} {h : AHp} {post : Option Value → AHp → Prop} : Ev sc 24 4 [l0, l1] (.int (97) :: stk) h post = Ev sc 24 67 [l0, l1] stk h post := e_1 (e := (4, .lookupswitch 137 #[(97, 63), (110, 52), (112, 114), (114, 97), (116, 80)], 52, 0)) (q := (67, [l0, l1], stk, h)) (by decide +kernel) rfl rfl
theorem s24_4_110 {sc : Scr} {l0 l1 : Value}  {stk : List Value} {h : AHp} {post : Option Value → AHp → Prop} : Ev sc 24 4 [l0, l1] (.int (110) :: stk) h post = Ev sc 24 56 [l0, l1] stk h post := e_1 (e := (4, .lookupswitch 137 #[(97, 63), (110, 52), (112, 114), (114, 97), (116, 80)], 52, 0)) (q := (56, [l0, l1], stk, h)) (by decide +kernel) rfl rfl
theorem s24_4_112 {sc : Scr} {l0 l1 : Value}  {stk : List Value} {h : AHp} {post : Option Value → AHp → Prop} : Ev sc 24 4 [l0, l1] (.int (112) :: stk) h post = Ev sc 24 118 [l0, l1] stk h post := e_1 (e := (4, .lookupswitch 137 #[(97, 63), (110, 52), (112, 114), (114, 97), (116, 80)], 52, 0)) (q := (118, [l0, l1], stk, h)) (by decide +kernel) rfl rfl
theorem s24_4_114 {sc : Scr} {l0 l1 : Value}  {stk : List Value} {h : AHp} {post : Option Value → AHp → Prop} : Ev sc 24 4 [l0, l1] (.int (114) :: stk) h post = Ev sc 24 101 [l0, l1] stk h post := e_1 (e := (4, .lookupswitch 137 #[(97, 63), (110, 52), (112, 114), (114, 97), (116, 80)], 52, 0)) (q := (101, [l0, l1], stk, h)) (by decide +kernel) rfl rfl
theorem s24_4_116 {sc : Scr} {l0 l1 : Value}  {stk : List Value} {h : AHp} {post : Option Value → AHp → Prop} : Ev sc 24 4 [l0, l1] (.int (116) :: stk) h post = Ev sc 24 84 [l0, l1] stk h post := e_1 (e := (4, .lookupswitch 137 #[(97, 63), (110, 52), (112, 114), (114, 97), (116, 80)], 52, 0)) (q := (84, [l0, l1], stk, h)) (by decide +kernel) rfl rfl
theorem s24_4_d {sc : Scr} {l0 l1 : Value} {x : Int32} {stk : List Value} {h : AHp} {post : Option Value → AHp → Prop} (h97 : ¬ x = 97) (h110 : ¬ x = 110) (h112 : ¬ x = 112) (h114 : ¬ x = 114) (h116 : ¬ x = 116) : Ev sc 24 4 [l0, l1] (.int x :: stk) h post = Ev sc 24 141 [l0, l1] stk h post := e_1 (e := (4, .lookupswitch 137 #[(97, 63), (110, 52), (112, 114), (114, 97), (116, 80)], 52, 0)) (q := (141, [l0, l1], stk, h)) (by decide +kernel) rfl (lsw_d (show pcT 4 (Op.lookupswitch.offset [(97, 63), (110, 52), (112, 114), (114, 97), (116, 80)] 137 x.toInt) = 141 by rw [lv_osw (a := 97) h97 (by decide)]; rw [lv_osw (a := 110) h110 (by decide)]; rw [lv_osw (a := 112) h112 (by decide)]; rw [lv_osw (a := 114) h114 (by decide)]; rw [lv_osw (a := 116) h116 (by decide)]; rfl))
theorem s24_56 {sc : Scr} {l0 : Value} {x : Nat} {stk : List Value} {h : AHp} {post : Option Value → AHp → Prop} : Ev sc 24 56 [l0, .ref x] stk h post = Ev sc 24 57 [l0, .ref x] (.ref x :: stk) h post := e_1 (e := (56, .aload_n 1, 0, 0)) (q := (57, [l0, .ref x], (.ref x :: stk), h)) (by decide +kernel) rfl rfl
theorem s24_57 {sc : Scr} {l1 : Value} {x : Nat} {stk : List Value} {h : AHp} {post : Option Value → AHp → Prop} : Ev sc 24 57 [.ref x, l1] stk h post = Ev sc 24 58 [.ref x, l1] (.ref x :: stk) h post := e_1 (e := (57, .aload_n 0, 0, 0)) (q := (58, [.ref x, l1], (.ref x :: stk), h)) (by decide +kernel) rfl rfl
theorem s24_58 {sc : Scr} {l0 l1 : Value} {x : Nat} {stk : List Value} {h : AHp} {post : Option Value → AHp → Prop} : Ev sc 24 58 [l0, l1] (.ref x :: stk) h post = oB (fldv h x 2 7) (fun v => Ev sc 24 61 [l0, l1] (v :: stk) h post) := e_get (i := 34) (r1 := 2) (r2 := 7) (by decide +kernel)
theorem s24_61 {sc : Scr} {l0 l1 : Value}  {stk : List Value} {h : AHp} {post : Option Value → AHp → Prop} : Ev sc 24 61 [l0, l1] stk h post = Ev sc 24 62 [l0, l1] (.int (0) :: stk) h post := e_1 (e := (61, .iconst 0, 0, 0)) (q := (62, [l0, l1], (.int (0) :: stk), h)) (by decide +kernel) rfl rfl
theorem s24_62 {sc : Scr} {l0 l1 : Value} {x : Nat} {j : Int32} {stk : List Value} {h : AHp} {post : Option Value → AHp → Prop} : Ev sc 24 62 [l0, l1] (.int j :: .ref x :: stk) h post = oB (ldi h x j) (fun v => Ev sc 24 63 [l0, l1] (.int v :: stk) h post) := e_ldi (r1 := 0) (r2 := 0) (by decide +kernel)
theorem s24_63 {sc : Scr} {l0 l1 : Value} {a0 : Int32}  {x : Nat} {h : AHp} {post : Option Value → AHp → Prop} (ho : isO h x 3) : Ev sc 24 63 [l0, l1] [.int a0, .ref x] h post = Call 39 [.ref x, .int a0] h (fun rv h2 => Ev sc 24 66 [l0, l1] (rv.toList ++ []) h2 post) := e_v (i := 71) (z := 39) (r2 := 0) (as := [.int a0]) (rest := []) (by decide +kernel) rfl rfl (Nat.le_of_ble_eq_true rfl) rfl ho
theorem s24_66 {sc : Scr} {l0 l1 : Value} {x : Int32} {h : AHp} {post : Option Value → AHp → Prop} : Ev sc 24 66 [l0, l1] [.int x] h post = post (some (.int x)) h := e_r (e := (66, .ireturn, 0, 0)) (by decide +kernel) rfl rfl
theorem s24_67 {sc : Scr} {l0 : Value} {x : Nat} {stk : List Value} {h : AHp} {post : Option Value → AHp → Prop} : Ev sc 24 67 [l0, .ref x] stk h post = Ev sc 24 68 [l0, .ref x] (.ref x :: stk) h post := e_1 (e := (67, .aload_n 1, 0, 0)) (q := (68, [l0, .ref x], (.ref x :: stk), h)) (by decide +kernel) rfl rfl
theorem s24_68 {sc : Scr} {l1 : Value} {x : Nat} {stk : List Value} {h : AHp} {post : Option Value → AHp → Prop} : Ev sc 24 68 [.ref x, l1] stk h post = Ev sc 24 69 [.ref x, l1] (.ref x :: stk) h post := e_1 (e := (68, .aload_n 0, 0, 0)) (q := (69, [.ref x, l1], (.ref x :: stk), h)) (by decide +kernel) rfl rfl
theorem s24_69 {sc : Scr} {l0 l1 : Value} {x : Nat} {stk : List Value} {h : AHp} {post : Option Value → AHp → Prop} : Ev sc 24 69 [l0, l1] (.ref x :: stk) h post = oB (fldv h x 2 7) (fun v => Ev sc 24 72 [l0, l1] (v :: stk) h post) := e_get (i := 34) (r1 := 2) (r2 := 7) (by decide +kernel)
theorem s24_72 {sc : Scr} {l0 l1 : Value}  {stk : List Value} {h : AHp} {post : Option Value → AHp → Prop} : Ev sc 24 72 [l0, l1] stk h post = Ev sc 24 73 [l0, l1] (.int (0) :: stk) h post := e_1 (e := (72, .iconst 0, 0, 0)) (q := (73, [l0, l1], (.int (0) :: stk), h)) (by decide +kernel) rfl rfl
theorem s24_73 {sc : Scr} {l0 l1 : Value} {x : Nat} {j : Int32} {stk : List Value} {h : AHp} {post : Option Value → AHp → Prop} : Ev sc 24 73 [l0, l1] (.int j :: .ref x :: stk) h post = oB (ldi h x j) (fun v => Ev sc 24 74 [l0, l1] (.int v :: stk) h post) := e_ldi (r1 := 0) (r2 := 0) (by decide +kernel)
theorem s24_74 {sc : Scr} {l1 : Value} {x : Nat} {stk : List Value} {h : AHp} {post : Option Value → AHp → Prop} : Ev sc 24 74 [.ref x, l1] stk h post = Ev sc 24 75 [.ref x, l1] (.ref x :: stk) h post := e_1 (e := (74, .aload_n 0, 0, 0)) (q := (75, [.ref x, l1], (.ref x :: stk), h)) (by decide +kernel) rfl rfl
theorem s24_75 {sc : Scr} {l0 l1 : Value} {x : Nat} {stk : List Value} {h : AHp} {post : Option Value → AHp → Prop} : Ev sc 24 75 [l0, l1] (.ref x :: stk) h post = oB (fldv h x 2 7) (fun v => Ev sc 24 78 [l0, l1] (v :: stk) h post) := e_get (i := 34) (r1 := 2) (r2 := 7) (by decide +kernel)
theorem s24_78 {sc : Scr} {l0 l1 : Value}  {stk : List Value} {h : AHp} {post : Option Value → AHp → Prop} : Ev sc 24 78 [l0, l1] stk h post = Ev sc 24 79 [l0, l1] (.int (1) :: stk) h post := e_1 (e := (78, .iconst 1, 0, 0)) (q := (79, [l0, l1], (.int (1) :: stk), h)) (by decide +kernel) rfl rfl
theorem s24_79 {sc : Scr} {l0 l1 : Value} {x : Nat} {j : Int32} {stk : List Value} {h : AHp} {post : Option Value → AHp → Prop} : Ev sc 24 79 [l0, l1] (.int j :: .ref x :: stk) h post = oB (ldi h x j) (fun v => Ev sc 24 80 [l0, l1] (.int v :: stk) h post) := e_ldi (r1 := 0) (r2 := 0) (by decide +kernel)
theorem s24_80 {sc : Scr} {l0 l1 : Value} {a0 : Int32} {a1 : Int32}  {x : Nat} {h : AHp} {post : Option Value → AHp → Prop} (ho : isO h x 3) : Ev sc 24 80 [l0, l1] [.int a0, .int a1, .ref x] h post = Call 40 [.ref x, .int a1, .int a0] h (fun rv h2 => Ev sc 24 83 [l0, l1] (rv.toList ++ []) h2 post) := e_v (i := 76) (z := 40) (r2 := 0) (as := [.int a1, .int a0]) (rest := []) (by decide +kernel) rfl rfl (Nat.le_of_ble_eq_true rfl) rfl ho
theorem s24_83 {sc : Scr} {l0 l1 : Value} {x : Int32} {h : AHp} {post : Option Value → AHp → Prop} : Ev sc 24 83 [l0, l1] [.int x] h post = post (some (.int x)) h := e_r (e := (83, .ireturn, 0, 0)) (by decide +kernel) rfl rfl
theorem s24_84 {sc : Scr} {l0 : Value} {x : Nat} {stk : List Value} {h : AHp} {post : Option Value → AHp → Prop} : Ev sc 24 84 [l0, .ref x] stk h post = Ev sc 24 85 [l0, .ref x] (.ref x :: stk) h post := e_1 (e := (84, .aload_n 1, 0, 0)) (q := (85, [l0, .ref x], (.ref x :: stk), h)) (by decide +kernel) rfl rfl
theorem s24_85 {sc : Scr} {l1 : Value} {x : Nat} {stk : List Value} {h : AHp} {post : Option Value → AHp → Prop} : Ev sc 24 85 [.ref x, l1] stk h post = Ev sc 24 86 [.ref x, l1] (.ref x :: stk) h post := e_1 (e := (85, .aload_n 0, 0, 0)) (q := (86, [.ref x, l1], (.ref x :: stk), h)) (by decide +kernel) rfl rfl
theorem s24_86 {sc : Scr} {l0 l1 : Value} {x : Nat} {stk : List Value} {h : AHp} {post : Option Value → AHp → Prop} : Ev sc 24 86 [l0, l1] (.ref x :: stk) h post = oB (fldv h x 2 7) (fun v => Ev sc 24 89 [l0, l1] (v :: stk) h post) := e_get (i := 34) (r1 := 2) (r2 := 7) (by decide +kernel)
theorem s24_89 {sc : Scr} {l0 l1 : Value}  {stk : List Value} {h : AHp} {post : Option Value → AHp → Prop} : Ev sc 24 89 [l0, l1] stk h post = Ev sc 24 90 [l0, l1] (.int (0) :: stk) h post := e_1 (e := (89, .iconst 0, 0, 0)) (q := (90, [l0, l1], (.int (0) :: stk), h)) (by decide +kernel) rfl rfl
theorem s24_90 {sc : Scr} {l0 l1 : Value} {x : Nat} {j : Int32} {stk : List Value} {h : AHp} {post : Option Value → AHp → Prop} : Ev sc 24 90 [l0, l1] (.int j :: .ref x :: stk) h post = oB (ldi h x j) (fun v => Ev sc 24 91 [l0, l1] (.int v :: stk) h post) := e_ldi (r1 := 0) (r2 := 0) (by decide +kernel)
theorem s24_91 {sc : Scr} {l1 : Value} {x : Nat} {stk : List Value} {h : AHp} {post : Option Value → AHp → Prop} : Ev sc 24 91 [.ref x, l1] stk h post = Ev sc 24 92 [.ref x, l1] (.ref x :: stk) h post := e_1 (e := (91, .aload_n 0, 0, 0)) (q := (92, [.ref x, l1], (.ref x :: stk), h)) (by decide +kernel) rfl rfl
theorem s24_92 {sc : Scr} {l0 l1 : Value} {x : Nat} {stk : List Value} {h : AHp} {post : Option Value → AHp → Prop} : Ev sc 24 92 [l0, l1] (.ref x :: stk) h post = oB (fldv h x 2 7) (fun v => Ev sc 24 95 [l0, l1] (v :: stk) h post) := e_get (i := 34) (r1 := 2) (r2 := 7) (by decide +kernel)
theorem s24_95 {sc : Scr} {l0 l1 : Value}  {stk : List Value} {h : AHp} {post : Option Value → AHp → Prop} : Ev sc 24 95 [l0, l1] stk h post = Ev sc 24 96 [l0, l1] (.int (1) :: stk) h post := e_1 (e := (95, .iconst 1, 0, 0)) (q := (96, [l0, l1], (.int (1) :: stk), h)) (by decide +kernel) rfl rfl
theorem s24_96 {sc : Scr} {l0 l1 : Value} {x : Nat} {j : Int32} {stk : List Value} {h : AHp} {post : Option Value → AHp → Prop} : Ev sc 24 96 [l0, l1] (.int j :: .ref x :: stk) h post = oB (ldi h x j) (fun v => Ev sc 24 97 [l0, l1] (.int v :: stk) h post) := e_ldi (r1 := 0) (r2 := 0) (by decide +kernel)
theorem s24_97 {sc : Scr} {l0 l1 : Value} {a0 : Int32} {a1 : Int32}  {x : Nat} {h : AHp} {post : Option Value → AHp → Prop} (ho : isO h x 3) : Ev sc 24 97 [l0, l1] [.int a0, .int a1, .ref x] h post = Call 41 [.ref x, .int a1, .int a0] h (fun rv h2 => Ev sc 24 100 [l0, l1] (rv.toList ++ []) h2 post) := e_v (i := 80) (z := 41) (r2 := 0) (as := [.int a1, .int a0]) (rest := []) (by decide +kernel) rfl rfl (Nat.le_of_ble_eq_true rfl) rfl ho
theorem s24_100 {sc : Scr} {l0 l1 : Value} {x : Int32} {h : AHp} {post : Option Value → AHp → Prop} : Ev sc 24 100 [l0, l1] [.int x] h post = post (some (.int x)) h := e_r (e := (100, .ireturn, 0, 0)) (by decide +kernel) rfl rfl
theorem s24_101 {sc : Scr} {l0 : Value} {x : Nat} {stk : List Value} {h : AHp} {post : Option Value → AHp → Prop} : Ev sc 24 101 [l0, .ref x] stk h post = Ev sc 24 102 [l0, .ref x] (.ref x :: stk) h post := e_1 (e := (101, .aload_n 1, 0, 0)) (q := (102, [l0, .ref x], (.ref x :: stk), h)) (by decide +kernel) rfl rfl
theorem s24_102 {sc : Scr} {l1 : Value} {x : Nat} {stk : List Value} {h : AHp} {post : Option Value → AHp → Prop} : Ev sc 24 102 [.ref x, l1] stk h post = Ev sc 24 103 [.ref x, l1] (.ref x :: stk) h post := e_1 (e := (102, .aload_n 0, 0, 0)) (q := (103, [.ref x, l1], (.ref x :: stk), h)) (by decide +kernel) rfl rfl
theorem s24_103 {sc : Scr} {l0 l1 : Value} {x : Nat} {stk : List Value} {h : AHp} {post : Option Value → AHp → Prop} : Ev sc 24 103 [l0, l1] (.ref x :: stk) h post = oB (fldv h x 2 7) (fun v => Ev sc 24 106 [l0, l1] (v :: stk) h post) := e_get (i := 34) (r1 := 2) (r2 := 7) (by decide +kernel)
theorem s24_106 {sc : Scr} {l0 l1 : Value}  {stk : List Value} {h : AHp} {post : Option Value → AHp → Prop} : Ev sc 24 106 [l0, l1] stk h post = Ev sc 24 107 [l0, l1] (.int (0) :: stk) h post := e_1 (e := (106, .iconst 0, 0, 0)) (q := (107, [l0, l1], (.int (0) :: stk), h)) (by decide +kernel) rfl rfl
theorem s24_107 {sc : Scr} {l0 l1 : Value} {x : Nat} {j : Int32} {stk : List Value} {h : AHp} {post : Option Value → AHp → Prop} : Ev sc 24 107 [l0, l1] (.int j :: .ref x :: stk) h post = oB (ldi h x j) (fun v => Ev sc 24 108 [l0, l1] (.int v :: stk) h post) := e_ldi (r1 := 0) (r2 := 0) (by decide +kernel)
theorem s24_108 {sc : Scr} {l1 : Value} {x : Nat} {stk : List Value} {h : AHp} {post : Option Value → AHp → Prop} : Ev sc 24 108 [.ref x, l1] stk h post = Ev sc 24 109 [.ref x, l1] (.ref x :: stk) h post := e_1 (e := (108, .aload_n 0, 0, 0)) (q := (109, [.ref x, l1], (.ref x :: stk), h)) (by decide +kernel) rfl rfl
theorem s24_109 {sc : Scr} {l0 l1 : Value} {x : Nat} {stk : List Value} {h : AHp} {post : Option Value → AHp → Prop} : Ev sc 24 109 [l0, l1] (.ref x :: stk) h post = oB (fldv h x 2 7) (fun v => Ev sc 24 112 [l0, l1] (v :: stk) h post) := e_get (i := 34) (r1 := 2) (r2 := 7) (by decide +kernel)
theorem s24_112 {sc : Scr} {l0 l1 : Value}  {stk : List Value} {h : AHp} {post : Option Value → AHp → Prop} : Ev sc 24 112 [l0, l1] stk h post = Ev sc 24 113 [l0, l1] (.int (1) :: stk) h post := e_1 (e := (112, .iconst 1, 0, 0)) (q := (113, [l0, l1], (.int (1) :: stk), h)) (by decide +kernel) rfl rfl
theorem s24_113 {sc : Scr} {l0 l1 : Value} {x : Nat} {j : Int32} {stk : List Value} {h : AHp} {post : Option Value → AHp → Prop} : Ev sc 24 113 [l0, l1] (.int j :: .ref x :: stk) h post = oB (ldi h x j) (fun v => Ev sc 24 114 [l0, l1] (.int v :: stk) h post) := e_ldi (r1 := 0) (r2 := 0) (by decide +kernel)
theorem s24_114 {sc : Scr} {l0 l1 : Value} {a0 : Int32} {a1 : Int32}  {x : Nat} {h : AHp} {post : Option Value → AHp → Prop} (ho : isO h x 3) : Ev sc 24 114 [l0, l1] [.int a0, .int a1, .ref x] h post = Call 42 [.ref x, .int a1, .int a0] h (fun rv h2 => Ev sc 24 117 [l0, l1] (rv.toList ++ []) h2 post) := e_v (i := 83) (z := 42) (r2 := 0) (as := [.int a1, .int a0]) (rest := []) (by decide +kernel) rfl rfl (Nat.le_of_ble_eq_true rfl) rfl ho
theorem s24_117 {sc : Scr} {l0 l1 : Value} {x : Int32} {h : AHp} {post : Option Value → AHp → Prop} : Ev sc 24 117 [l0, l1] [.int x] h post = post (some (.int x)) h := e_r (e := (117, .ireturn, 0, 0)) (by decide +kernel) rfl rfl
theorem s24_118 {sc : Scr} {l0 : Value} {x : Nat} {stk : List Value} {h : AHp} {post : Option Value → AHp → Prop} : Ev sc 24 118 [l0, .ref x] stk h post = Ev sc 24 119 [l0, .ref x] (.ref x :: stk) h post := e_1 (e := (118, .aload_n 1, 0, 0)) (q := (119, [l0, .ref x], (.ref x :: stk), h)) (by decide +kernel) rfl rfl
theorem s24_119 {sc : Scr} {l1 : Value} {x : Nat} {stk : List Value} {h : AHp} {post : Option Value → AHp → Prop} : Ev sc 24 119 [.ref x, l1] stk h post = Ev sc 24 120 [.ref x, l1] (.ref x :: stk) h post := e_1 (e := (119, .aload_n 0, 0, 0)) (q := (120, [.ref x, l1], (.ref x :: stk), h)) (by decide +kernel) rfl rfl
theorem s24_120 {sc : Scr} {l0 l1 : Value} {x : Nat} {stk : List Value} {h : AHp} {post : Option Value → AHp → Prop} : Ev sc 24 120 [l0, l1] (.ref x :: stk) h post = oB (fldv h x 2 7) (fun v => Ev sc 24 123 [l0, l1] (v :: stk) h post) := e_get (i := 34) (r1 := 2) (r2 := 7) (by decide +kernel)
theorem s24_123 {sc : Scr} {l0 l1 : Value}  {stk : List Value} {h : AHp} {post : Option Value → AHp → Prop} : Ev sc 24 123 [l0, l1] stk h post = Ev sc 24 124 [l0, l1] (.int (0) :: stk) h post := e_1 (e := (123, .iconst 0, 0, 0)) (q := (124, [l0, l1], (.int (0) :: stk), h)) (by decide +kernel) rfl rfl
theorem s24_124 {sc : Scr} {l0 l1 : Value} {x : Nat} {j : Int32} {stk : List Value} {h : AHp} {post : Option Value → AHp → Prop} : Ev sc 24 124 [l0, l1] (.int j :: .ref x :: stk) h post = oB (ldi h x j) (fun v => Ev sc 24 125 [l0, l1] (.int v :: stk) h post) := e_ldi (r1 := 0) (r2 := 0) (by decide +kernel)
theorem s24_125 {sc : Scr} {l1 : Value} {x : Nat} {stk : List Value} {h : AHp} {post : Option Value → AHp → Prop} : Ev sc 24 125 [.ref x, l1] stk h post = Ev sc 24 126 [.ref x, l1] (.ref x :: stk) h post := e_1 (e := (125, .aload_n 0, 0, 0)) (q := (126, [.ref x, l1], (.ref x :: stk), h)) (by decide +kernel) rfl rfl
theorem s24_126 {sc : Scr} {l0 l1 : Value} {x : Nat} {stk : List Value} {h : AHp} {post : Option Value → AHp → Prop} : Ev sc 24 126 [l0, l1] (.ref x :: stk) h post = oB (fldv h x 2 7) (fun v => Ev sc 24 129 [l0, l1] (v :: stk) h post) := e_get (i := 34) (r1 := 2) (r2 := 7) (by decide +kernel)
theorem s24_129 {sc : Scr} {l0 l1 : Value}  {stk : List Value} {h : AHp} {post : Option Value → AHp → Prop} : Ev sc 24 129 [l0, l1] stk h post = Ev sc 24 130 [l0, l1] (.int (1) :: stk) h post := e_1 (e := (129, .iconst 1, 0, 0)) (q := (130, [l0, l1], (.int (1) :: stk), h)) (by decide +kernel) rfl rfl
theorem s24_130 {sc : Scr} {l0 l1 : Value} {x : Nat} {j : Int32} {stk : List Value} {h : AHp} {post : Option Value → AHp → Prop} : Ev sc 24 130 [l0, l1] (.int j :: .ref x :: stk) h post = oB (ldi h x j) (fun v => Ev sc 24 131 [l0, l1] (.int v :: stk) h post) := e_ldi (r1 := 0) (r2 := 0) (by decide +kernel)
theorem s24_131 {sc : Scr} {l1 : Value} {x : Nat} {stk : List Value} {h : AHp} {post : Option Value → AHp → Prop} : Ev sc 24 131 [.ref x, l1] stk h post = Ev sc 24 132 [.ref x, l1] (.ref x :: stk) h post := e_1 (e := (131, .aload_n 0, 0, 0)) (q := (132, [.ref x, l1], (.ref x :: stk), h)) (by decide +kernel) rfl rfl
theorem s24_132 {sc : Scr} {l0 l1 : Value} {x : Nat} {stk : List Value} {h : AHp} {post : Option Value → AHp → Prop} : Ev sc 24 132 [l0, l1] (.ref x :: stk) h post = oB (fldv h x 2 7) (fun v => Ev sc 24 135 [l0, l1] (v :: stk) h post) := e_get (i := 34) (r1 := 2) (r2 := 7) (by decide +kernel)
theorem s24_135 {sc : Scr} {l0 l1 : Value}  {stk : List Value} {h : AHp} {post : Option Value → AHp → Prop} : Ev sc 24 135 [l0, l1] stk h post = Ev sc 24 136 [l0, l1] (.int (2) :: stk) h post := e_1 (e := (135, .iconst 2, 0, 0)) (q := (136, [l0, l1], (.int (2) :: stk), h)) (by decide +kernel) rfl rfl
theorem s24_136 {sc : Scr} {l0 l1 : Value} {x : Nat} {j : Int32} {stk : List Value} {h : AHp} {post : Option Value → AHp → Prop} : Ev sc 24 136 [l0, l1] (.int j :: .ref x :: stk) h post = oB (ldi h x j) (fun v => Ev sc 24 137 [l0, l1] (.int v :: stk) h post) := e_ldi (r1 := 0) (r2 := 0) (by decide +kernel)
theorem s24_137 {sc : Scr} {l0 l1 : Value} {a0 : Int32} {a1 : Int32} {a2 : Int32}  {x : Nat} {h : AHp} {post : Option Value → AHp → Prop} (ho : isO h x 3) : Ev sc 24 137 [l0, l1] [.int a0, .int a1, .int a2, .ref x] h post = Call 47 [.ref x, .int a2, .int a1, .int a0] h (fun rv h2 => Ev sc 24 140 [l0, l1] (rv.toList ++ []) h2 post) := e_v (i := 86) (z := 47) (r2 := 0) (as := [.int a2, .int a1, .int a0]) (rest := []) (by decide +kernel) rfl rfl (Nat.le_of_ble_eq_true rfl) rfl ho
theorem s24_140 {sc : Scr} {l0 l1 : Value} {x : Int32} {h : AHp} {post : Option Value → AHp → Prop} : Ev sc 24 140 [l0, l1] [.int x] h post = post (some (.int x)) h := e_r (e := (140, .ireturn, 0, 0)) (by decide +kernel) rfl rfl
theorem s24_141 {sc : Scr} {l0 : Value} {x : Nat} {stk : List Value} {h : AHp} {post : Option Value → AHp → Prop} : Ev sc 24 141 [l0, .ref x] stk h post = Ev sc 24 142 [l0, .ref x] (.ref x :: stk) h post := e_1 (e := (141, .aload_n 1, 0, 0)) (q := (142, [l0, .ref x], (.ref x :: stk), h)) (by decide +kernel) rfl rfl
theorem s24_142 {sc : Scr} {l1 : Value} {x : Nat} {stk : List Value} {h : AHp} {post : Option Value → AHp → Prop} : Ev sc 24 142 [.ref x, l1] stk h post = Ev sc 24 143 [.ref x, l1] (.ref x :: stk) h post := e_1 (e := (142, .aload_n 0, 0, 0)) (q := (143, [.ref x, l1], (.ref x :: stk), h)) (by decide +kernel) rfl rfl
theorem s24_143 {sc : Scr} {l0 l1 : Value} {x : Nat} {stk : List Value} {h : AHp} {post : Option Value → AHp → Prop} : Ev sc 24 143 [l0, l1] (.ref x :: stk) h post = oB (fldv h x 2 7) (fun v => Ev sc 24 146 [l0, l1] (v :: stk) h post) := e_get (i := 34) (r1 := 2) (r2 := 7) (by decide +kernel)
theorem s24_146 {sc : Scr} {l0 l1 : Value}  {stk : List Value} {h : AHp} {post : Option Value → AHp → Prop} : Ev sc 24 146 [l0, l1] stk h post = Ev sc 24 147 [l0, l1] (.int (0) :: stk) h post := e_1 (e := (146, .iconst 0, 0, 0)) (q := (147, [l0, l1], (.int (0) :: stk), h)) (by decide +kernel) rfl rfl
theorem s24_147 {sc : Scr} {l0 l1 : Value} {x : Nat} {j : Int32} {stk : List Value} {h : AHp} {post : Option Value → AHp → Prop} : Ev sc 24 147 [l0, l1] (.int j :: .ref x :: stk) h post = oB (ldi h x j) (fun v => Ev sc 24 148 [l0, l1] (.int v :: stk) h post) := e_ldi (r1 := 0) (r2 := 0) (by decide +kernel)
theorem s24_148 {sc : Scr} {l0 l1 : Value} {a0 : Int32}  {x : Nat} {h : AHp} {post : Option Value → AHp → Prop} (ho : isO h x 3) : Ev sc 24 148 [l0, l1] [.int a0, .ref x] h post = Call 49 [.ref x, .int a0] h (fun rv h2 => Ev sc 24 151 [l0, l1] (rv.toList ++ []) h2 post) := e_v (i := 90) (z := 49) (r2 := 0) (as := [.int a0]) (rest := []) (by decide +kernel) rfl rfl (Nat.le_of_ble_eq_true rfl) rfl ho
theorem s24_151 {sc : Scr} {l0 l1 : Value} {x : Int32} {h : AHp} {post : Option Value → AHp → Prop} : Ev sc 24 151 [l0, l1] [.int x] h post = post (some (.int x)) h := e_r (e := (151, .ireturn, 0, 0)) (by decide +kernel) rfl rfl
-- 153 J6_bitCount_0f7a4 (I)I
theorem s153_e {a0 : Int32} {h : AHp} {post : Option Value → AHp → Prop} : Call 153 [.int a0] h post = Ev none 153 0 [.int a0] [] h post := rfl
theorem s153_0 {sc : Scr} {x : Int32} {stk : List Value} {h : AHp} {post : Option Value → AHp → Prop} : Ev sc 153 0 [.int x] stk h post = Ev sc 153 1 [.int x] (.int x :: stk) h post := e_1 (e := (0, .iload_n 0, 0, 0)) (q := (1, [.int x], (.int x :: stk), h)) (by decide +kernel) rfl rfl
theorem s153_1 {sc : Scr} {x : Int32} {stk : List Value} {h : AHp} {post : Option Value → AHp → Prop} : Ev sc 153 1 [.int x] stk h post = Ev sc 153 2 [.int x] (.int x :: stk) h post := e_1 (e := (1, .iload_n 0, 0, 0)) (q := (2, [.int x], (.int x :: stk), h)) (by decide +kernel) rfl rfl
theorem s153_2 {sc : Scr} {l0 : Value}  {stk : List Value} {h : AHp} {post : Option Value → AHp → Prop} : Ev sc 153 2 [l0] stk h post = Ev sc 153 3 [l0] (.int (1) :: stk) h post := e_1 (e := (2, .iconst 1, 0, 0)) (q := (3, [l0], (.int (1) :: stk), h)) (by decide +kernel) rfl rfl
theorem s153_3 {sc : Scr} {l0 : Value} {x z : Int32} {stk : List Value} {h : AHp} {post : Option Value → AHp → Prop} : Ev sc 153 3 [l0] (.int z :: .int x :: stk) h post = Ev sc 153 4 [l0] (.int ((x.toUInt32 >>> (z.toUInt32 &&& Int32.toUInt32 31)).toInt32) :: stk) h post := e_1 (e := (3, .iushr, 0, 0)) (q := (4, [l0], (.int ((x.toUInt32 >>> (z.toUInt32 &&& Int32.toUInt32 31)).toInt32) :: stk), h)) (by decide +kernel) rfl rfl
theorem s153_4 {sc : Scr} {l0 : Value}  {stk : List Value} {h : AHp} {post : Option Value → AHp → Prop} : Ev sc 153 4 [l0] stk h post = Ev sc 153 7 [l0] (.int (1431655765) :: stk) h post := e_1 (e := (4, .ldc_w 265, 0, 1431655765)) (q := (7, [l0], (.int (1431655765) :: stk), h)) (by decide +kernel) rfl rfl
theorem s153_7 {sc : Scr} {l0 : Value} {x z : Int32} {stk : List Value} {h : AHp} {post : Option Value → AHp → Prop} : Ev sc 153 7 [l0] (.int z :: .int x :: stk) h post = Ev sc 153 8 [l0] (.int (x &&& z) :: stk) h post := e_1 (e := (7, .iand, 0, 0)) (q := (8, [l0], (.int (x &&& z) :: stk), h)) (by decide +kernel) rfl rfl
theorem s153_8 {sc : Scr} {l0 : Value} {x z : Int32} {stk : List Value} {h : AHp} {post : Option Value → AHp → Prop} : Ev sc 153 8 [l0] (.int z :: .int x :: stk) h post = Ev sc 153 9 [l0] (.int (x - z) :: stk) h post := e_1 (e := (8, .isub, 0, 0)) (q := (9, [l0], (.int (x - z) :: stk), h)) (by decide +kernel) rfl rfl
theorem s153_9 {sc : Scr} {l0 : Value} {x : Int32} {stk : List Value} {h : AHp} {post : Option Value → AHp → Prop} : Ev sc 153 9 [l0] (.int x :: stk) h post = Ev sc 153 10 [.int x] stk h post := e_1 (e := (9, .istore_n 0, 0, 0)) (q := (10, [.int x], stk, h)) (by decide +kernel) rfl rfl
theorem s153_10 {sc : Scr} {x : Int32} {stk : List Value} {h : AHp} {post : Option Value → AHp → Prop} : Ev sc 153 10 [.int x] stk h post = Ev sc 153 11 [.int x] (.int x :: stk) h post := e_1 (e := (10, .iload_n 0, 0, 0)) (q := (11, [.int x], (.int x :: stk), h)) (by decide +kernel) rfl rfl
theorem s153_11 {sc : Scr} {l0 : Value}  {stk : List Value} {h : AHp} {post : Option Value → AHp → Prop} : Ev sc 153 11 [l0] stk h post = Ev sc 153 14 [l0] (.int (858993459) :: stk) h post := e_1 (e := (11, .ldc_w 266, 0, 858993459)) (q := (14, [l0], (.int (858993459) :: stk), h)) (by decide +kernel) rfl rfl
theorem s153_14 {sc : Scr} {l0 : Value} {x z : Int32} {stk : List Value} {h : AHp} {post : Option Value → AHp → Prop} : Ev sc 153 14 [l0] (.int z :: .int x :: stk) h post = Ev sc 153 15 [l0] (.int (x &&& z) :: stk) h post := e_1 (e := (14, .iand, 0, 0)) (q := (15, [l0], (.int (x &&& z) :: stk), h)) (by decide +kernel) rfl rfl
theorem s153_15 {sc : Scr} {x : Int32} {stk : List Value} {h : AHp} {post : Option Value → AHp → Prop} : Ev sc 153 15 [.int x] stk h post = Ev sc 153 16 [.int x] (.int x :: stk) h post := e_1 (e := (15, .iload_n 0, 0, 0)) (q := (16, [.int x], (.int x :: stk), h)) (by decide +kernel) rfl rfl
theorem s153_16 {sc : Scr} {l0 : Value}  {stk : List Value} {h : AHp} {post : Option Value → AHp → Prop} : Ev sc 153 16 [l0] stk h post = Ev sc 153 17 [l0] (.int (2) :: stk) h post := e_1 (e := (16, .iconst 2, 0, 0)) (q := (17, [l0], (.int (2) :: stk), h)) (by decide +kernel) rfl rfl
theorem s153_17 {sc : Scr} {l0 : Value} {x z : Int32} {stk : List Value} {h : AHp} {post : Option Value → AHp → Prop} : Ev sc 153 17 [l0] (.int z :: .int x :: stk) h post = Ev sc 153 18 [l0] (.int ((x.toUInt32 >>> (z.toUInt32 &&& Int32.toUInt32 31)).toInt32) :: stk) h post := e_1 (e := (17, .iushr, 0, 0)) (q := (18, [l0], (.int ((x.toUInt32 >>> (z.toUInt32 &&& Int32.toUInt32 31)).toInt32) :: stk), h)) (by decide +kernel) rfl rfl
theorem s153_18 {sc : Scr} {l0 : Value}  {stk : List Value} {h : AHp} {post : Option Value → AHp → Prop} : Ev sc 153 18 [l0] stk h post = Ev sc 153 21 [l0] (.int (858993459) :: stk) h post := e_1 (e := (18, .ldc_w 266, 0, 858993459)) (q := (21, [l0], (.int (858993459) :: stk), h)) (by decide +kernel) rfl rfl
theorem s153_21 {sc : Scr} {l0 : Value} {x z : Int32} {stk : List Value} {h : AHp} {post : Option Value → AHp → Prop} : Ev sc 153 21 [l0] (.int z :: .int x :: stk) h post = Ev sc 153 22 [l0] (.int (x &&& z) :: stk) h post := e_1 (e := (21, .iand, 0, 0)) (q := (22, [l0], (.int (x &&& z) :: stk), h)) (by decide +kernel) rfl rfl
theorem s153_22 {sc : Scr} {l0 : Value} {x z : Int32} {stk : List Value} {h : AHp} {post : Option Value → AHp → Prop} : Ev sc 153 22 [l0] (.int z :: .int x :: stk) h post = Ev sc 153 23 [l0] (.int (x + z) :: stk) h post := e_1 (e := (22, .iadd, 0, 0)) (q := (23, [l0], (.int (x + z) :: stk), h)) (by decide +kernel) rfl rfl
theorem s153_23 {sc : Scr} {l0 : Value} {x : Int32} {stk : List Value} {h : AHp} {post : Option Value → AHp → Prop} : Ev sc 153 23 [l0] (.int x :: stk) h post = Ev sc 153 24 [.int x] stk h post := e_1 (e := (23, .istore_n 0, 0, 0)) (q := (24, [.int x], stk, h)) (by decide +kernel) rfl rfl
theorem s153_24 {sc : Scr} {x : Int32} {stk : List Value} {h : AHp} {post : Option Value → AHp → Prop} : Ev sc 153 24 [.int x] stk h post = Ev sc 153 25 [.int x] (.int x :: stk) h post := e_1 (e := (24, .iload_n 0, 0, 0)) (q := (25, [.int x], (.int x :: stk), h)) (by decide +kernel) rfl rfl
theorem s153_25 {sc : Scr} {x : Int32} {stk : List Value} {h : AHp} {post : Option Value → AHp → Prop} : Ev sc 153 25 [.int x] stk h post = Ev sc 153 26 [.int x] (.int x :: stk) h post := e_1 (e := (25, .iload_n 0, 0, 0)) (q := (26, [.int x], (.int x :: stk), h)) (by decide +kernel) rfl rfl
theorem s153_26 {sc : Scr} {l0 : Value}  {stk : List Value} {h : AHp} {post : Option Value → AHp → Prop} : Ev sc 153 26 [l0] stk h post = Ev sc 153 27 [l0] (.int (4) :: stk) h post := e_1 (e := (26, .iconst 4, 0, 0)) (q := (27, [l0], (.int (4) :: stk), h)) (by decide +kernel) rfl rfl
theorem s153_27 {sc : Scr} {l0 : Value} {x z : Int32} {stk : List Value} {h : AHp} {post : Option Value → AHp → Prop} : Ev sc 153 27 [l0] (.int z :: .int x :: stk) h post = Ev sc 153 28 [l0] (.int ((x.toUInt32 >>> (z.toUInt32 &&& Int32.toUInt32 31)).toInt32) :: stk) h post := e_1 (e := (27, .iushr, 0, 0)) (q := (28, [l0], (.int ((x.toUInt32 >>> (z.toUInt32 &&& Int32.toUInt32 31)).toInt32) :: stk), h)) (by decide +kernel) rfl rfl
theorem s153_28 {sc : Scr} {l0 : Value} {x z : Int32} {stk : List Value} {h : AHp} {post : Option Value → AHp → Prop} : Ev sc 153 28 [l0] (.int z :: .int x :: stk) h post = Ev sc 153 29 [l0] (.int (x + z) :: stk) h post := e_1 (e := (28, .iadd, 0, 0)) (q := (29, [l0], (.int (x + z) :: stk), h)) (by decide +kernel) rfl rfl
theorem s153_29 {sc : Scr} {l0 : Value}  {stk : List Value} {h : AHp} {post : Option Value → AHp → Prop} : Ev sc 153 29 [l0] stk h post = Ev sc 153 32 [l0] (.int (252645135) :: stk) h post := e_1 (e := (29, .ldc_w 267, 0, 252645135)) (q := (32, [l0], (.int (252645135) :: stk), h)) (by decide +kernel) rfl rfl
theorem s153_32 {sc : Scr} {l0 : Value} {x z : Int32} {stk : List Value} {h : AHp} {post : Option Value → AHp → Prop} : Ev sc 153 32 [l0] (.int z :: .int x :: stk) h post = Ev sc 153 33 [l0] (.int (x &&& z) :: stk) h post := e_1 (e := (32, .iand, 0, 0)) (q := (33, [l0], (.int (x &&& z) :: stk), h)) (by decide +kernel) rfl rfl
theorem s153_33 {sc : Scr} {l0 : Value} {x : Int32} {stk : List Value} {h : AHp} {post : Option Value → AHp → Prop} : Ev sc 153 33 [l0] (.int x :: stk) h post = Ev sc 153 34 [.int x] stk h post := e_1 (e := (33, .istore_n 0, 0, 0)) (q := (34, [.int x], stk, h)) (by decide +kernel) rfl rfl
theorem s153_34 {sc : Scr} {x : Int32} {stk : List Value} {h : AHp} {post : Option Value → AHp → Prop} : Ev sc 153 34 [.int x] stk h post = Ev sc 153 35 [.int x] (.int x :: stk) h post := e_1 (e := (34, .iload_n 0, 0, 0)) (q := (35, [.int x], (.int x :: stk), h)) (by decide +kernel) rfl rfl
theorem s153_35 {sc : Scr} {x : Int32} {stk : List Value} {h : AHp} {post : Option Value → AHp → Prop} : Ev sc 153 35 [.int x] stk h post = Ev sc 153 36 [.int x] (.int x :: stk) h post := e_1 (e := (35, .iload_n 0, 0, 0)) (q := (36, [.int x], (.int x :: stk), h)) (by decide +kernel) rfl rfl
theorem s153_36 {sc : Scr} {l0 : Value}  {stk : List Value} {h : AHp} {post : Option Value → AHp → Prop} : Ev sc 153 36 [l0] stk h post = Ev sc 153 38 [l0] (.int (8) :: stk) h post := e_1 (e := (36, .bipush 8, 0, 0)) (q := (38, [l0], (.int (8) :: stk), h)) (by decide +kernel) rfl rfl
theorem s153_38 {sc : Scr} {l0 : Value} {x z : Int32} {stk : List Value} {h : AHp} {post : Option Value → AHp → Prop} : Ev sc 153 38 [l0] (.int z :: .int x :: stk) h post = Ev sc 153 39 [l0] (.int ((x.toUInt32 >>> (z.toUInt32 &&& Int32.toUInt32 31)).toInt32) :: stk) h post := e_1 (e := (38, .iushr, 0, 0)) (q := (39, [l0], (.int ((x.toUInt32 >>> (z.toUInt32 &&& Int32.toUInt32 31)).toInt32) :: stk), h)) (by decide +kernel) rfl rfl
theorem s153_39 {sc : Scr} {l0 : Value} {x z : Int32} {stk : List Value} {h : AHp} {post : Option Value → AHp → Prop} : Ev sc 153 39 [l0] (.int z :: .int x :: stk) h post = Ev sc 153 40 [l0] (.int (x + z) :: stk) h post := e_1 (e := (39, .iadd, 0, 0)) (q := (40, [l0], (.int (x + z) :: stk), h)) (by decide +kernel) rfl rfl
theorem s153_40 {sc : Scr} {l0 : Value} {x : Int32} {stk : List Value} {h : AHp} {post : Option Value → AHp → Prop} : Ev sc 153 40 [l0] (.int x :: stk) h post = Ev sc 153 41 [.int x] stk h post := e_1 (e := (40, .istore_n 0, 0, 0)) (q := (41, [.int x], stk, h)) (by decide +kernel) rfl rfl
theorem s153_41 {sc : Scr} {x : Int32} {stk : List Value} {h : AHp} {post : Option Value → AHp → Prop} : Ev sc 153 41 [.int x] stk h post = Ev sc 153 42 [.int x] (.int x :: stk) h post := e_1 (e := (41, .iload_n 0, 0, 0)) (q := (42, [.int x], (.int x :: stk), h)) (by decide +kernel) rfl rfl
theorem s153_42 {sc : Scr} {x : Int32} {stk : List Value} {h : AHp} {post : Option Value → AHp → Prop} : Ev sc 153 42 [.int x] stk h post = Ev sc 153 43 [.int x] (.int x :: stk) h post := e_1 (e := (42, .iload_n 0, 0, 0)) (q := (43, [.int x], (.int x :: stk), h)) (by decide +kernel) rfl rfl
theorem s153_43 {sc : Scr} {l0 : Value}  {stk : List Value} {h : AHp} {post : Option Value → AHp → Prop} : Ev sc 153 43 [l0] stk h post = Ev sc 153 45 [l0] (.int (16) :: stk) h post := e_1 (e := (43, .bipush 16, 0, 0)) (q := (45, [l0], (.int (16) :: stk), h)) (by decide +kernel) rfl rfl
theorem s153_45 {sc : Scr} {l0 : Value} {x z : Int32} {stk : List Value} {h : AHp} {post : Option Value → AHp → Prop} : Ev sc 153 45 [l0] (.int z :: .int x :: stk) h post = Ev sc 153 46 [l0] (.int ((x.toUInt32 >>> (z.toUInt32 &&& Int32.toUInt32 31)).toInt32) :: stk) h post := e_1 (e := (45, .iushr, 0, 0)) (q := (46, [l0], (.int ((x.toUInt32 >>> (z.toUInt32 &&& Int32.toUInt32 31)).toInt32) :: stk), h)) (by decide +kernel) rfl rfl
theorem s153_46 {sc : Scr} {l0 : Value} {x z : Int32} {stk : List Value} {h : AHp} {post : Option Value → AHp → Prop} : Ev sc 153 46 [l0] (.int z :: .int x :: stk) h post = Ev sc 153 47 [l0] (.int (x + z) :: stk) h post := e_1 (e := (46, .iadd, 0, 0)) (q := (47, [l0], (.int (x + z) :: stk), h)) (by decide +kernel) rfl rfl
theorem s153_47 {sc : Scr} {l0 : Value} {x : Int32} {stk : List Value} {h : AHp} {post : Option Value → AHp → Prop} : Ev sc 153 47 [l0] (.int x :: stk) h post = Ev sc 153 48 [.int x] stk h post := e_1 (e := (47, .istore_n 0, 0, 0)) (q := (48, [.int x], stk, h)) (by decide +kernel) rfl rfl
theorem s153_48 {sc : Scr} {x : Int32} {stk : List Value} {h : AHp} {post : Option Value → AHp → Prop} : Ev sc 153 48 [.int x] stk h post = Ev sc 153 49 [.int x] (.int x :: stk) h post := e_1 (e := (48, .iload_n 0, 0, 0)) (q := (49, [.int x], (.int x :: stk), h)) (by decide +kernel) rfl rfl
theorem s153_49 {sc : Scr} {l0 : Value}  {stk : List Value} {h : AHp} {post : Option Value → AHp → Prop} : Ev sc 153 49 [l0] stk h post = Ev sc 153 51 [l0] (.int (63) :: stk) h post := e_1 (e := (49, .bipush 63, 0, 0)) (q := (51, [l0], (.int (63) :: stk), h)) (by decide +kernel) rfl rfl
theorem s153_51 {sc : Scr} {l0 : Value} {x z : Int32} {stk : List Value} {h : AHp} {post : Option Value → AHp → Prop} : Ev sc 153 51 [l0] (.int z :: .int x :: stk) h post = Ev sc 153 52 [l0] (.int (x &&& z) :: stk) h post := e_1 (e := (51, .iand, 0, 0)) (q := (52, [l0], (.int (x &&& z) :: stk), h)) (by decide +kernel) rfl rfl
theorem s153_52 {sc : Scr} {l0 : Value} {x : Int32} {h : AHp} {post : Option Value → AHp → Prop} : Ev sc 153 52 [l0] [.int x] h post = post (some (.int x)) h := e_r (e := (52, .ireturn, 0, 0)) (by decide +kernel) rfl rfl
end
section
-- 25 X3_init ()V
theorem s25_e {a0 : Nat} {h : AHp} {post : Option Value → AHp → Prop} : Call 25 [.ref a0] h post = Ev none 25 0 [.ref a0, .long 0] [] h post := rfl
theorem s25_0 {sc : Scr} {l1 : Value} {x : Nat} {stk : List Value} {h : AHp} {post : Option Value → AHp → Prop} : Ev sc 25 0 [.ref x, l1] stk h post = Ev sc 25 1 [.ref x, l1] (.ref x :: stk) h post := e_1 (e := (0, .aload_n 0, 0, 0)) (q := (1, [.ref x, l1], (.ref x :: stk), h)) (by decide +kernel) rfl rfl
theorem s25_1 {sc : Scr} {l0 l1 : Value} {x : Nat}  {h : AHp} {post : Option Value → AHp → Prop} : Ev sc 25 1 [l0, l1] [.ref x] h post = Ev sc 25 4 [l0, l1] [] h post := e_1 (e := (1, .invokespecial 3, 1001, 0)) (q := (4, [l0, l1], [], h)) (by decide +kernel) rfl rfl
theorem s25_4 {sc : Scr} {l1 : Value} {x : Nat} {stk : List Value} {h : AHp} {post : Option Value → AHp → Prop} : Ev sc 25 4 [.ref x, l1] stk h post = Ev sc 25 5 [.ref x, l1] (.ref x :: stk) h post := e_1 (e := (4, .aload_n 0, 0, 0)) (q := (5, [.ref x, l1], (.ref x :: stk), h)) (by decide +kernel) rfl rfl
theorem s25_5 {sc : Scr} {l0 l1 : Value}  {stk : List Value} {h : AHp} {post : Option Value → AHp → Prop} : Ev sc 25 5 [l0, l1] stk h post = Ev sc 25 7 [l0, l1] (.int (6) :: stk) h post := e_1 (e := (5, .bipush 6, 0, 0)) (q := (7, [l0, l1], (.int (6) :: stk), h)) (by decide +kernel) rfl rfl
theorem s25_7 {sc : Scr} {l0 l1 : Value} {x : Int32} {stk : List Value} {h : AHp} {post : Option Value → AHp → Prop} (hx : ¬ (x < 0 ∨ 100000 < x.toNatClampNeg)) : Ev sc 25 7 [l0, l1] (.int x :: stk) h post = Ev sc 25 10 [l0, l1] (.ref h.length :: stk) (h ++ [.inl (1, x.toNatClampNeg, .inr (fun _ => none))]) post := e_1 (e := (7, .anewarray 9, 1, 0)) (q := (10, [l0, l1], (.ref h.length :: stk), (h ++ [.inl (1, x.toNatClampNeg, .inr (fun _ => none))]))) (by decide +kernel) rfl (by exact if_neg hx)
theorem s25_10 {sc : Scr} {l0 l1 : Value} {x : Nat} {v : Nat} {stk : List Value} {h : AHp} {post : Option Value → AHp → Prop} : Ev sc 25 10 [l0, l1] (.ref v :: .ref x :: stk) h post = oB (stf h x 3 0 (.ref v)) (fun h2 => Ev sc 25 13 [l0, l1] stk h2 post) := e_put (i := 11) (r1 := 3) (r2 := 0) (by decide +kernel)
theorem s25_13 {sc : Scr} {l1 : Value} {x : Nat} {stk : List Value} {h : AHp} {post : Option Value → AHp → Prop} : Ev sc 25 13 [.ref x, l1] stk h post = Ev sc 25 14 [.ref x, l1] (.ref x :: stk) h post := e_1 (e := (13, .aload_n 0, 0, 0)) (q := (14, [.ref x, l1], (.ref x :: stk), h)) (by decide +kernel) rfl rfl
theorem s25_14 {sc : Scr} {l0 l1 : Value}  {stk : List Value} {h : AHp} {post : Option Value → AHp → Prop} : Ev sc 25 14 [l0, l1] stk h post = Ev sc 25 15 [l0, l1] (.int (3) :: stk) h post := e_1 (e := (14, .iconst 3, 0, 0)) (q := (15, [l0, l1], (.int (3) :: stk), h)) (by decide +kernel) rfl rfl
theorem s25_15 {sc : Scr} {l0 l1 : Value} {x : Nat} {v : Int32} {stk : List Value} {h : AHp} {post : Option Value → AHp → Prop} : Ev sc 25 15 [l0, l1] (.int v :: .ref x :: stk) h post = oB (stf h x 3 1 (.int v)) (fun h2 => Ev sc 25 18 [l0, l1] stk h2 post) := e_put (i := 17) (r1 := 3) (r2 := 1) (by decide +kernel)
theorem s25_18 {sc : Scr} {l1 : Value} {x : Nat} {stk : List Value} {h : AHp} {post : Option Value → AHp → Prop} : Ev sc 25 18 [.ref x, l1] stk h post = Ev sc 25 19 [.ref x, l1] (.ref x :: stk) h post := e_1 (e := (18, .aload_n 0, 0, 0)) (q := (19, [.ref x, l1], (.ref x :: stk), h)) (by decide +kernel) rfl rfl
theorem s25_19 {sc : Scr} {l0 l1 : Value}  {stk : List Value} {h : AHp} {post : Option Value → AHp → Prop} : Ev sc 25 19 [l0, l1] stk h post = Ev sc 25 21 [l0, l1] (.int (8) :: stk) h post := e_1 (e := (19, .bipush 8, 0, 0)) (q := (21, [l0, l1], (.int (8) :: stk), h)) (by decide +kernel) rfl rfl
theorem s25_21 {sc : Scr} {l0 l1 : Value} {x : Int32} {stk : List Value} {h : AHp} {post : Option Value → AHp → Prop} (hx : ¬ (x < 0 ∨ 100000 < x.toNatClampNeg)) : Ev sc 25 21 [l0, l1] (.int x :: stk) h post = Ev sc 25 23 [l0, l1] (.ref h.length :: stk) (h ++ [.inl (0, x.toNatClampNeg, .inl (fun _ => 0))]) post := e_1 (e := (21, .newarray .int, 0, 0)) (q := (23, [l0, l1], (.ref h.length :: stk), (h ++ [.inl (0, x.toNatClampNeg, .inl (fun _ => 0))]))) (by decide +kernel) rfl (by exact if_neg hx)
theorem s25_23 {sc : Scr} {l0 l1 : Value} {x : Nat} {v : Nat} {stk : List Value} {h : AHp} {post : Option Value → AHp → Prop} : Ev sc 25 23 [l0, l1] (.ref v :: .ref x :: stk) h post = oB (stf h x 3 2 (.ref v)) (fun h2 => Ev sc 25 26 [l0, l1] stk h2 post) := e_put (i := 21) (r1 := 3) (r2 := 2) (by decide +kernel)
theorem s25_26 {sc : Scr} {l1 : Value} {x : Nat} {stk : List Value} {h : AHp} {post : Option Value → AHp → Prop} : Ev sc 25 26 [.ref x, l1] stk h post = Ev sc 25 27 [.ref x, l1] (.ref x :: stk) h post := e_1 (e := (26, .aload_n 0, 0, 0)) (q := (27, [.ref x, l1], (.ref x :: stk), h)) (by decide +kernel) rfl rfl
theorem s25_27 {sc : Scr} {l0 l1 : Value}  {stk : List Value} {h : AHp} {post : Option Value → AHp → Prop} : Ev sc 25 27 [l0, l1] stk h post = Ev sc 25 29 [l0, l1] (.int (8) :: stk) h post := e_1 (e := (27, .bipush 8, 0, 0)) (q := (29, [l0, l1], (.int (8) :: stk), h)) (by decide +kernel) rfl rfl
theorem s25_29 {sc : Scr} {l0 l1 : Value} {x : Int32} {stk : List Value} {h : AHp} {post : Option Value → AHp → Prop} (hx : ¬ (x < 0 ∨ 100000 < x.toNatClampNeg)) : Ev sc 25 29 [l0, l1] (.int x :: stk) h post = Ev sc 25 31 [l0, l1] (.ref h.length :: stk) (h ++ [.inl (0, x.toNatClampNeg, .inl (fun _ => 0))]) post := e_1 (e := (29, .newarray .int, 0, 0)) (q := (31, [l0, l1], (.ref h.length :: stk), (h ++ [.inl (0, x.toNatClampNeg, .inl (fun _ => 0))]))) (by decide +kernel) rfl (by exact if_neg hx)
theorem s25_31 {sc : Scr} {l0 l1 : Value} {x : Nat} {v : Nat} {stk : List Value} {h : AHp} {post : Option Value → AHp → Prop} : Ev sc 25 31 [l0, l1] (.ref v :: .ref x :: stk) h post = oB (stf h x 3 3 (.ref v)) (fun h2 => Ev sc 25 34 [l0, l1] stk h2 post) := e_put (i := 25) (r1 := 3) (r2 := 3) (by decide +kernel)
theorem s25_34 {sc : Scr} {l1 : Value} {x : Nat} {stk : List Value} {h : AHp} {post : Option Value → AHp → Prop} : Ev sc 25 34 [.ref x, l1] stk h post = Ev sc 25 35 [.ref x, l1] (.ref x :: stk) h post := e_1 (e := (34, .aload_n 0, 0, 0)) (q := (35, [.ref x, l1], (.ref x :: stk), h)) (by decide +kernel) rfl rfl
theorem s25_35 {sc : Scr} {l0 l1 : Value}  {stk : List Value} {h : AHp} {post : Option Value → AHp → Prop} : Ev sc 25 35 [l0, l1] stk h post = Ev sc 25 36 [l0, l1] (.int (0) :: stk) h post := e_1 (e := (35, .iconst 0, 0, 0)) (q := (36, [l0, l1], (.int (0) :: stk), h)) (by decide +kernel) rfl rfl
theorem s25_36 {sc : Scr} {l0 l1 : Value} {x : Nat} {v : Int32} {stk : List Value} {h : AHp} {post : Option Value → AHp → Prop} : Ev sc 25 36 [l0, l1] (.int v :: .ref x :: stk) h post = oB (stf h x 3 4 (.int v)) (fun h2 => Ev sc 25 39 [l0, l1] stk h2 post) := e_put (i := 28) (r1 := 3) (r2 := 4) (by decide +kernel)
theorem s25_39 {sc : Scr} {l1 : Value} {x : Nat} {stk : List Value} {h : AHp} {post : Option Value → AHp → Prop} : Ev sc 25 39 [.ref x, l1] stk h post = Ev sc 25 40 [.ref x, l1] (.ref x :: stk) h post := e_1 (e := (39, .aload_n 0, 0, 0)) (q := (40, [.ref x, l1], (.ref x :: stk), h)) (by decide +kernel) rfl rfl
theorem s25_40 {sc : Scr} {l0 l1 : Value}  {stk : List Value} {h : AHp} {post : Option Value → AHp → Prop} : Ev sc 25 40 [l0, l1] stk h post = Ev sc 25 42 [l0, l1] (.int (8) :: stk) h post := e_1 (e := (40, .bipush 8, 0, 0)) (q := (42, [l0, l1], (.int (8) :: stk), h)) (by decide +kernel) rfl rfl
theorem s25_42 {sc : Scr} {l0 l1 : Value} {x : Int32} {stk : List Value} {h : AHp} {post : Option Value → AHp → Prop} (hx : ¬ (x < 0 ∨ 100000 < x.toNatClampNeg)) : Ev sc 25 42 [l0, l1] (.int x :: stk) h post = Ev sc 25 45 [l0, l1] (.ref h.length :: stk) (h ++ [.inl (2, x.toNatClampNeg, .inr (fun _ => none))]) post := e_1 (e := (42, .anewarray 31, 2, 0)) (q := (45, [l0, l1], (.ref h.length :: stk), (h ++ [.inl (2, x.toNatClampNeg, .inr (fun _ => none))]))) (by decide +kernel) rfl (by exact if_neg hx)
theorem s25_45 {sc : Scr} {l0 l1 : Value} {x : Nat} {v : Nat} {stk : List Value} {h : AHp} {post : Option Value → AHp → Prop} : Ev sc 25 45 [l0, l1] (.ref v :: .ref x :: stk) h post = oB (stf h x 3 5 (.ref v)) (fun h2 => Ev sc 25 48 [l0, l1] stk h2 post) := e_put (i := 33) (r1 := 3) (r2 := 5) (by decide +kernel)
theorem s25_48 {sc : Scr} {l1 : Value} {x : Nat} {stk : List Value} {h : AHp} {post : Option Value → AHp → Prop} : Ev sc 25 48 [.ref x, l1] stk h post = Ev sc 25 49 [.ref x, l1] (.ref x :: stk) h post := e_1 (e := (48, .aload_n 0, 0, 0)) (q := (49, [.ref x, l1], (.ref x :: stk), h)) (by decide +kernel) rfl rfl
theorem s25_49 {sc : Scr} {l0 l1 : Value}  {stk : List Value} {h : AHp} {post : Option Value → AHp → Prop} : Ev sc 25 49 [l0, l1] stk h post = Ev sc 25 50 [l0, l1] (.int (0) :: stk) h post := e_1 (e := (49, .iconst 0, 0, 0)) (q := (50, [l0, l1], (.int (0) :: stk), h)) (by decide +kernel) rfl rfl
theorem s25_50 {sc : Scr} {l0 l1 : Value} {x : Nat} {v : Int32} {stk : List Value} {h : AHp} {post : Option Value → AHp → Prop} : Ev sc 25 50 [l0, l1] (.int v :: .ref x :: stk) h post = oB (stf h x 3 6 (.int v)) (fun h2 => Ev sc 25 53 [l0, l1] stk h2 post) := e_put (i := 37) (r1 := 3) (r2 := 6) (by decide +kernel)
theorem s25_53 {sc : Scr} {l1 : Value} {x : Nat} {stk : List Value} {h : AHp} {post : Option Value → AHp → Prop} : Ev sc 25 53 [.ref x, l1] stk h post = Ev sc 25 54 [.ref x, l1] (.ref x :: stk) h post := e_1 (e := (53, .aload_n 0, 0, 0)) (q := (54, [.ref x, l1], (.ref x :: stk), h)) (by decide +kernel) rfl rfl
theorem s25_54 {sc : Scr} {l0 l1 : Value}  {stk : List Value} {h : AHp} {post : Option Value → AHp → Prop} : Ev sc 25 54 [l0, l1] stk h post = Ev sc 25 55 [l0, l1] (.int (0) :: stk) h post := e_1 (e := (54, .iconst 0, 0, 0)) (q := (55, [l0, l1], (.int (0) :: stk), h)) (by decide +kernel) rfl rfl
theorem s25_55 {sc : Scr} {l0 l1 : Value} {x : Nat} {v : Int32} {stk : List Value} {h : AHp} {post : Option Value → AHp → Prop} : Ev sc 25 55 [l0, l1] (.int v :: .ref x :: stk) h post = oB (stf h x 3 7 (.int v)) (fun h2 => Ev sc 25 58 [l0, l1] stk h2 post) := e_put (i := 40) (r1 := 3) (r2 := 7) (by decide +kernel)
theorem s25_58 {sc : Scr} {l1 : Value} {x : Nat} {stk : List Value} {h : AHp} {post : Option Value → AHp → Prop} : Ev sc 25 58 [.ref x, l1] stk h post = Ev sc 25 59 [.ref x, l1] (.ref x :: stk) h post := e_1 (e := (58, .aload_n 0, 0, 0)) (q := (59, [.ref x, l1], (.ref x :: stk), h)) (by decide +kernel) rfl rfl
theorem s25_59 {sc : Scr} {l0 l1 : Value}  {stk : List Value} {h : AHp} {post : Option Value → AHp → Prop} : Ev sc 25 59 [l0, l1] stk h post = Ev sc 25 60 [l0, l1] (.int (0) :: stk) h post := e_1 (e := (59, .iconst 0, 0, 0)) (q := (60, [l0, l1], (.int (0) :: stk), h)) (by decide +kernel) rfl rfl
theorem s25_60 {sc : Scr} {l0 l1 : Value} {x : Nat} {v : Int32} {stk : List Value} {h : AHp} {post : Option Value → AHp → Prop} : Ev sc 25 60 [l0, l1] (.int v :: .ref x :: stk) h post = oB (stf h x 3 8 (.int v)) (fun h2 => Ev sc 25 63 [l0, l1] stk h2 post) := e_put (i := 43) (r1 := 3) (r2 := 8) (by decide +kernel)
theorem s25_63 {sc : Scr} {l1 : Value} {x : Nat} {stk : List Value} {h : AHp} {post : Option Value → AHp → Prop} : Ev sc 25 63 [.ref x, l1] stk h post = Ev sc 25 64 [.ref x, l1] (.ref x :: stk) h post := e_1 (e := (63, .aload_n 0, 0, 0)) (q := (64, [.ref x, l1], (.ref x :: stk), h)) (by decide +kernel) rfl rfl
theorem s25_64 {sc : Scr} {l0 l1 : Value}  {stk : List Value} {h : AHp} {post : Option Value → AHp → Prop} : Ev sc 25 64 [l0, l1] stk h post = Ev sc 25 65 [l0, l1] (.int (0) :: stk) h post := e_1 (e := (64, .iconst 0, 0, 0)) (q := (65, [l0, l1], (.int (0) :: stk), h)) (by decide +kernel) rfl rfl
theorem s25_65 {sc : Scr} {l0 l1 : Value} {x : Nat} {v : Int32} {stk : List Value} {h : AHp} {post : Option Value → AHp → Prop} : Ev sc 25 65 [l0, l1] (.int v :: .ref x :: stk) h post = oB (stf h x 3 9 (.int v)) (fun h2 => Ev sc 25 68 [l0, l1] stk h2 post) := e_put (i := 46) (r1 := 3) (r2 := 9) (by decide +kernel)
theorem s25_68 {sc : Scr} {l1 : Value} {x : Nat} {stk : List Value} {h : AHp} {post : Option Value → AHp → Prop} : Ev sc 25 68 [.ref x, l1] stk h post = Ev sc 25 69 [.ref x, l1] (.ref x :: stk) h post := e_1 (e := (68, .aload_n 0, 0, 0)) (q := (69, [.ref x, l1], (.ref x :: stk), h)) (by decide +kernel) rfl rfl
theorem s25_69 {sc : Scr} {l0 l1 : Value}  {stk : List Value} {h : AHp} {post : Option Value → AHp → Prop} : Ev sc 25 69 [l0, l1] stk h post = Ev sc 25 70 [l0, l1] (.int (0) :: stk) h post := e_1 (e := (69, .iconst 0, 0, 0)) (q := (70, [l0, l1], (.int (0) :: stk), h)) (by decide +kernel) rfl rfl
theorem s25_70 {sc : Scr} {l0 l1 : Value} {x : Nat} {v : Int32} {stk : List Value} {h : AHp} {post : Option Value → AHp → Prop} : Ev sc 25 70 [l0, l1] (.int v :: .ref x :: stk) h post = oB (stf h x 3 10 (.int v)) (fun h2 => Ev sc 25 73 [l0, l1] stk h2 post) := e_put (i := 49) (r1 := 3) (r2 := 10) (by decide +kernel)
theorem s25_73 {sc : Scr} {l0 l1 : Value}  {stk : List Value} {h : AHp} {post : Option Value → AHp → Prop} : Ev sc 25 73 [l0, l1] stk h post = Ev sc 25 74 [l0, l1] (.int (0) :: stk) h post := e_1 (e := (73, .iconst 0, 0, 0)) (q := (74, [l0, l1], (.int (0) :: stk), h)) (by decide +kernel) rfl rfl
theorem s25_74 {sc : Scr} {l0 l1 : Value} {x : Int32} {stk : List Value} {h : AHp} {post : Option Value → AHp → Prop} : Ev sc 25 74 [l0, l1] (.int x :: stk) h post = Ev sc 25 75 [l0, .int x] stk h post := e_1 (e := (74, .istore_n 1, 0, 0)) (q := (75, [l0, .int x], stk, h)) (by decide +kernel) rfl rfl
theorem s25_75 {sc : Scr} {l0 : Value} {x : Int32} {stk : List Value} {h : AHp} {post : Option Value → AHp → Prop} : Ev sc 25 75 [l0, .int x] stk h post = Ev sc 25 76 [l0, .int x] (.int x :: stk) h post := e_1 (e := (75, .iload_n 1, 0, 0)) (q := (76, [l0, .int x], (.int x :: stk), h)) (by decide +kernel) rfl rfl
theorem s25_76 {sc : Scr} {l0 l1 : Value}  {stk : List Value} {h : AHp} {post : Option Value → AHp → Prop} : Ev sc 25 76 [l0, l1] stk h post = Ev sc 25 78 [l0, l1] (.int (6) :: stk) h post := e_1 (e := (76, .bipush 6, 0, 0)) (q := (78, [l0, l1], (.int (6) :: stk), h)) (by decide +kernel) rfl rfl
theorem s25_78 {sc : Scr} {l0 l1 : Value} {x z : Int32} {stk : List Value} {h : AHp} {post : Option Value → AHp → Prop} : Ev sc 25 78 [l0, l1] (.int z :: .int x :: stk) h post = (if z ≤ x then Ev sc 25 100 [l0, l1] stk h post else Ev sc 25 81 [l0, l1] stk h post) := e_icmp_ge (o := 22) (r1 := 0) (r2 := 0) 100 (by decide +kernel) rfl
theorem s25_81 {sc : Scr} {l1 : Value} {x : Nat} {stk : List Value} {h : AHp} {post : Option Value → AHp → Prop} : Ev sc 25 81 [.ref x, l1] stk h post = Ev sc 25 82 [.ref x, l1] (.ref x :: stk) h post := e_1 (e := (81, .aload_n 0, 0, 0)) (q := (82, [.ref x, l1], (.ref x :: stk), h)) (by decide +kernel) rfl rfl
theorem s25_82 {sc : Scr} {l0 l1 : Value} {x : Nat} {stk : List Value} {h : AHp} {post : Option Value → AHp → Prop} : Ev sc 25 82 [l0, l1] (.ref x :: stk) h post = oB (fldv h x 3 0) (fun v => Ev sc 25 85 [l0, l1] (v :: stk) h post) := e_get (i := 11) (r1 := 3) (r2 := 0) (by decide +kernel)
theorem s25_85 {sc : Scr} {l0 : Value} {x : Int32} {stk : List Value} {h : AHp} {post : Option Value → AHp → Prop} : Ev sc 25 85 [l0, .int x] stk h post = Ev sc 25 86 [l0, .int x] (.int x :: stk) h post := e_1 (e := (85, .iload_n 1, 0, 0)) (q := (86, [l0, .int x], (.int x :: stk), h)) (by decide +kernel) rfl rfl
theorem s25_86 {sc : Scr} {l0 l1 : Value}  {stk : List Value} {h : AHp} {post : Option Value → AHp → Prop} : Ev sc 25 86 [l0, l1] stk h post = Ev sc 25 89 [l0, l1] (.ref h.length :: stk) (h ++ [.inr (0, dflt 0)]) post := e_1 (e := (86, .new 9, 0, 0)) (q := (89, [l0, l1], (.ref h.length :: stk), (h ++ [.inr (0, dflt 0)]))) (by decide +kernel) rfl rfl
theorem s25_89 {sc : Scr} {l0 l1 : Value} {x : Nat} {stk : List Value} {h : AHp} {post : Option Value → AHp → Prop} : Ev sc 25 89 [l0, l1] (.ref x :: stk) h post = Ev sc 25 90 [l0, l1] (.ref x :: .ref x :: stk) h post := e_1 (e := (89, .dup, 0, 0)) (q := (90, [l0, l1], (.ref x :: .ref x :: stk), h)) (by decide +kernel) rfl rfl
theorem s25_90 {sc : Scr} {l0 l1 : Value}  {y0 : Nat} {y1 : Int32} {y2 : Nat} {x : Nat} {h : AHp} {post : Option Value → AHp → Prop} : Ev sc 25 90 [l0, l1] [.ref x, .ref y0, .int y1, .ref y2] h post = Call 0 [.ref x] h (fun rv h2 => Ev sc 25 93 [l0, l1] (rv.toList ++ [.ref y0, .int y1, .ref y2]) h2 post) := e_i (i := 52) (z := 0) (r2 := 1) (as := []) (rest := [.ref y0, .int y1, .ref y2]) (by decide +kernel) rfl rfl rfl (Nat.le_of_ble_eq_true rfl) rfl
theorem s25_93 {sc : Scr} {l0 l1 : Value} {x v : Nat} {j : Int32} {stk : List Value} {h : AHp} {post : Option Value → AHp → Prop} : Ev sc 25 93 [l0, l1] (.ref v :: .int j :: .ref x :: stk) h post = oB (stq h x j v) (fun h2 => Ev sc 25 94 [l0, l1] stk h2 post) := e_stq (r1 := 0) (r2 := 0) (by decide +kernel)
theorem s25_94 {sc : Scr} {l0 : Value} {x : Int32} {stk : List Value} {h : AHp} {post : Option Value → AHp → Prop} : Ev sc 25 94 [l0, .int x] stk h post = Ev sc 25 97 [l0, .int (x + 1)] stk h post := e_1 (e := (94, .iinc 1 1, 0, 0)) (q := (97, [l0, .int (x + 1)], stk, h)) (by decide +kernel) rfl rfl
theorem s25_97 {sc : Scr} {l0 l1 : Value}  {stk : List Value} {h : AHp} {post : Option Value → AHp → Prop} : Ev sc 25 97 [l0, l1] stk h post = Ev sc 25 75 [l0, l1] stk h post := e_1 (e := (97, .goto (-22), 0, 0)) (q := (75, [l0, l1], stk, h)) (by decide +kernel) rfl rfl
theorem s25_100 {sc : Scr} {l0 l1 : Value}  {stk : List Value} {h : AHp} {post : Option Value → AHp → Prop} : Ev sc 25 100 [l0, l1] stk h post = Ev sc 25 101 [l0, l1] (.int (0) :: stk) h post := e_1 (e := (100, .iconst 0, 0, 0)) (q := (101, [l0, l1], (.int (0) :: stk), h)) (by decide +kernel) rfl rfl
theorem s25_101 {sc : Scr} {l0 l1 : Value} {x : Int32} {stk : List Value} {h : AHp} {post : Option Value → AHp → Prop} : Ev sc 25 101 [l0, l1] (.int x :: stk) h post = Ev sc 25 102 [l0, .int x] stk h post := e_1 (e := (101, .istore_n 1, 0, 0)) (q := (102, [l0, .int x], stk, h)) (by decide +kernel) rfl rfl
theorem s25_102 {sc : Scr} {l0 : Value} {x : Int32} {stk : List Value} {h : AHp} {post : Option Value → AHp → Prop} : Ev sc 25 102 [l0, .int x] stk h post = Ev sc 25 103 [l0, .int x] (.int x :: stk) h post := e_1 (e := (102, .iload_n 1, 0, 0)) (q := (103, [l0, .int x], (.int x :: stk), h)) (by decide +kernel) rfl rfl
theorem s25_103 {sc : Scr} {l0 l1 : Value}  {stk : List Value} {h : AHp} {post : Option Value → AHp → Prop} : Ev sc 25 103 [l0, l1] stk h post = Ev sc 25 105 [l0, l1] (.int (8) :: stk) h post := e_1 (e := (103, .bipush 8, 0, 0)) (q := (105, [l0, l1], (.int (8) :: stk), h)) (by decide +kernel) rfl rfl
theorem s25_105 {sc : Scr} {l0 l1 : Value} {x z : Int32} {stk : List Value} {h : AHp} {post : Option Value → AHp → Prop} : Ev sc 25 105 [l0, l1] (.int z :: .int x :: stk) h post = (if z ≤ x then Ev sc 25 127 [l0, l1] stk h post else Ev sc 25 108 [l0, l1] stk h post) := e_icmp_ge (o := 22) (r1 := 0) (r2 := 0) 127 (by decide +kernel) rfl
theorem s25_108 {sc : Scr} {l1 : Value} {x : Nat} {stk : List Value} {h : AHp} {post : Option Value → AHp → Prop} : Ev sc 25 108 [.ref x, l1] stk h post = Ev sc 25 109 [.ref x, l1] (.ref x :: stk) h post := e_1 (e := (108, .aload_n 0, 0, 0)) (q := (109, [.ref x, l1], (.ref x :: stk), h)) (by decide +kernel) rfl rfl
theorem s25_109 {sc : Scr} {l0 l1 : Value} {x : Nat} {stk : List Value} {h : AHp} {post : Option Value → AHp → Prop} : Ev sc 25 109 [l0, l1] (.ref x :: stk) h post = oB (fldv h x 3 5) (fun v => Ev sc 25 112 [l0, l1] (v :: stk) h post) := e_get (i := 33) (r1 := 3) (r2 := 5) (by decide +kernel)
theorem s25_112 {sc : Scr} {l0 : Value} {x : Int32} {stk : List Value} {h : AHp} {post : Option Value → AHp → Prop} : Ev sc 25 112 [l0, .int x] stk h post = Ev sc 25 113 [l0, .int x] (.int x :: stk) h post := e_1 (e := (112, .iload_n 1, 0, 0)) (q := (113, [l0, .int x], (.int x :: stk), h)) (by decide +kernel) rfl rfl
theorem s25_113 {sc : Scr} {l0 l1 : Value}  {stk : List Value} {h : AHp} {post : Option Value → AHp → Prop} : Ev sc 25 113 [l0, l1] stk h post = Ev sc 25 116 [l0, l1] (.ref h.length :: stk) (h ++ [.inr (1, dflt 1)]) post := e_1 (e := (113, .new 31, 1, 0)) (q := (116, [l0, l1], (.ref h.length :: stk), (h ++ [.inr (1, dflt 1)]))) (by decide +kernel) rfl rfl
theorem s25_116 {sc : Scr} {l0 l1 : Value} {x : Nat} {stk : List Value} {h : AHp} {post : Option Value → AHp → Prop} : Ev sc 25 116 [l0, l1] (.ref x :: stk) h post = Ev sc 25 117 [l0, l1] (.ref x :: .ref x :: stk) h post := e_1 (e := (116, .dup, 0, 0)) (q := (117, [l0, l1], (.ref x :: .ref x :: stk), h)) (by decide +kernel) rfl rfl
theorem s25_117 {sc : Scr} {l0 l1 : Value}  {y0 : Nat} {y1 : Int32} {y2 : Nat} {x : Nat} {h : AHp} {post : Option Value → AHp → Prop} : Ev sc 25 117 [l0, l1] [.ref x, .ref y0, .int y1, .ref y2] h post = Call 14 [.ref x] h (fun rv h2 => Ev sc 25 120 [l0, l1] (rv.toList ++ [.ref y0, .int y1, .ref y2]) h2 post) := e_i (i := 53) (z := 14) (r2 := 1) (as := []) (rest := [.ref y0, .int y1, .ref y2]) (by decide +kernel) rfl rfl rfl (Nat.le_of_ble_eq_true rfl) rfl
theorem s25_120 {sc : Scr} {l0 l1 : Value} {x v : Nat} {j : Int32} {stk : List Value} {h : AHp} {post : Option Value → AHp → Prop} : Ev sc 25 120 [l0, l1] (.ref v :: .int j :: .ref x :: stk) h post = oB (stq h x j v) (fun h2 => Ev sc 25 121 [l0, l1] stk h2 post) := e_stq (r1 := 0) (r2 := 0) (by decide +kernel)
theorem s25_121 {sc : Scr} {l0 : Value} {x : Int32} {stk : List Value} {h : AHp} {post : Option Value → AHp → Prop} : Ev sc 25 121 [l0, .int x] stk h post = Ev sc 25 124 [l0, .int (x + 1)] stk h post := e_1 (e := (121, .iinc 1 1, 0, 0)) (q := (124, [l0, .int (x + 1)], stk, h)) (by decide +kernel) rfl rfl
theorem s25_124 {sc : Scr} {l0 l1 : Value}  {stk : List Value} {h : AHp} {post : Option Value → AHp → Prop} : Ev sc 25 124 [l0, l1] stk h post = Ev sc 25 102 [l0, l1] stk h post := e_1 (e := (124, .goto (-22), 0, 0)) (q := (102, [l0, l1], stk, h)) (by decide +kernel) rfl rfl
theorem s25_127 {sc : Scr} {l0 l1 : Value}  {h : AHp} {post : Option Value → AHp → Prop} : Ev sc 25 127 [l0, l1] [] h post = post none h := e_r (e := (127, .return_, 0, 0)) (by decide +kernel) rfl rfl
-- 26 X3_copyFrom (LPartedSums$State;)V
theorem s26_e {a0 : Nat} {a1 : Nat} {h : AHp} {post : Option Value → AHp → Prop} : Call 26 [.ref a0, .ref a1] h post = Ev none 26 0 [.ref a0, .ref a1, .long 0] [] h post := rfl
theorem s26_0 {sc : Scr} {l0 l1 l2 : Value}  {stk : List Value} {h : AHp} {post : Option Value → AHp → Prop} : Ev sc 26 0 [l0, l1, l2] stk h post = Ev sc 26 1 [l0, l1, l2] (.int (0) :: stk) h post := e_1 (e := (0, .iconst 0, 0, 0)) (q := (1, [l0, l1, l2], (.int (0) :: stk), h)) (by decide +kernel) rfl rfl
theorem s26_1 {sc : Scr} {l0 l1 l2 : Value} {x : Int32} {stk : List Value} {h : AHp} {post : Option Value → AHp → Prop} : Ev sc 26 1 [l0, l1, l2] (.int x :: stk) h post = Ev sc 26 2 [l0, l1, .int x] stk h post := e_1 (e := (1, .istore_n 2, 0, 0)) (q := (2, [l0, l1, .int x], stk, h)) (by decide +kernel) rfl rfl
theorem s26_2 {sc : Scr} {l0 l1 : Value} {x : Int32} {stk : List Value} {h : AHp} {post : Option Value → AHp → Prop} : Ev sc 26 2 [l0, l1, .int x] stk h post = Ev sc 26 3 [l0, l1, .int x] (.int x :: stk) h post := e_1 (e := (2, .iload_n 2, 0, 0)) (q := (3, [l0, l1, .int x], (.int x :: stk), h)) (by decide +kernel) rfl rfl
theorem s26_3 {sc : Scr} {l0 l1 l2 : Value}  {stk : List Value} {h : AHp} {post : Option Value → AHp → Prop} : Ev sc 26 3 [l0, l1, l2] stk h post = Ev sc 26 5 [l0, l1, l2] (.int (6) :: stk) h post := e_1 (e := (3, .bipush 6, 0, 0)) (q := (5, [l0, l1, l2], (.int (6) :: stk), h)) (by decide +kernel) rfl rfl
theorem s26_5 {sc : Scr} {l0 l1 l2 : Value} {x z : Int32} {stk : List Value} {h : AHp} {post : Option Value → AHp → Prop} : Ev sc 26 5 [l0, l1, l2] (.int z :: .int x :: stk) h post = (if z ≤ x then Ev sc 26 29 [l0, l1, l2] stk h post else Ev sc 26 8 [l0, l1, l2] stk h post) := e_icmp_ge (o := 24) (r1 := 0) (r2 := 0) 29 (by decide +kernel) rfl
theorem s26_8 {sc : Scr} {l1 l2 : Value} {x : Nat} {stk : List Value} {h : AHp} {post : Option Value → AHp → Prop} : Ev sc 26 8 [.ref x, l1, l2] stk h post = Ev sc 26 9 [.ref x, l1, l2] (.ref x :: stk) h post := e_1 (e := (8, .aload_n 0, 0, 0)) (q := (9, [.ref x, l1, l2], (.ref x :: stk), h)) (by decide +kernel) rfl rfl
theorem s26_9 {sc : Scr} {l0 l1 l2 : Value} {x : Nat} {stk : List Value} {h : AHp} {post : Option Value → AHp → Prop} : Ev sc 26 9 [l0, l1, l2] (.ref x :: stk) h post = oB (fldv h x 3 0) (fun v => Ev sc 26 12 [l0, l1, l2] (v :: stk) h post) := e_get (i := 11) (r1 := 3) (r2 := 0) (by decide +kernel)
theorem s26_12 {sc : Scr} {l0 l1 : Value} {x : Int32} {stk : List Value} {h : AHp} {post : Option Value → AHp → Prop} : Ev sc 26 12 [l0, l1, .int x] stk h post = Ev sc 26 13 [l0, l1, .int x] (.int x :: stk) h post := e_1 (e := (12, .iload_n 2, 0, 0)) (q := (13, [l0, l1, .int x], (.int x :: stk), h)) (by decide +kernel) rfl rfl
theorem s26_13 {sc : Scr} {l0 l1 l2 : Value} {x : Nat} {j : Int32} {stk : List Value} {h : AHp} {post : Option Value → AHp → Prop} : Ev sc 26 13 [l0, l1, l2] (.int j :: .ref x :: stk) h post = oB (ldq h x j) (fun v => Ev sc 26 14 [l0, l1, l2] (v :: stk) h post) := e_ldq (r1 := 0) (r2 := 0) (by decide +kernel)
theorem s26_14 {sc : Scr} {l0 l2 : Value} {x : Nat} {stk : List Value} {h : AHp} {post : Option Value → AHp → Prop} : Ev sc 26 14 [l0, .ref x, l2] stk h post = Ev sc 26 15 [l0, .ref x, l2] (.ref x :: stk) h post := e_1 (e := (14, .aload_n 1, 0, 0)) (q := (15, [l0, .ref x, l2], (.ref x :: stk), h)) (by decide +kernel) rfl rfl
theorem s26_15 {sc : Scr} {l0 l1 l2 : Value} {x : Nat} {stk : List Value} {h : AHp} {post : Option Value → AHp → Prop} : Ev sc 26 15 [l0, l1, l2] (.ref x :: stk) h post = oB (fldv h x 3 0) (fun v => Ev sc 26 18 [l0, l1, l2] (v :: stk) h post) := e_get (i := 11) (r1 := 3) (r2 := 0) (by decide +kernel)
theorem s26_18 {sc : Scr} {l0 l1 : Value} {x : Int32} {stk : List Value} {h : AHp} {post : Option Value → AHp → Prop} : Ev sc 26 18 [l0, l1, .int x] stk h post = Ev sc 26 19 [l0, l1, .int x] (.int x :: stk) h post := e_1 (e := (18, .iload_n 2, 0, 0)) (q := (19, [l0, l1, .int x], (.int x :: stk), h)) (by decide +kernel) rfl rfl
theorem s26_19 {sc : Scr} {l0 l1 l2 : Value} {x : Nat} {j : Int32} {stk : List Value} {h : AHp} {post : Option Value → AHp → Prop} : Ev sc 26 19 [l0, l1, l2] (.int j :: .ref x :: stk) h post = oB (ldq h x j) (fun v => Ev sc 26 20 [l0, l1, l2] (v :: stk) h post) := e_ldq (r1 := 0) (r2 := 0) (by decide +kernel)
theorem s26_20 {sc : Scr} {l0 l1 l2 : Value} {a0 : Nat}  {x : Nat} {h : AHp} {post : Option Value → AHp → Prop} (ho : isO h x 0) : Ev sc 26 20 [l0, l1, l2] [.ref a0, .ref x] h post = Call 1 [.ref x, .ref a0] h (fun rv h2 => Ev sc 26 23 [l0, l1, l2] (rv.toList ++ []) h2 post) := e_v (i := 54) (z := 1) (r2 := 0) (as := [.ref a0]) (rest := []) (by decide +kernel) rfl rfl (Nat.le_of_ble_eq_true rfl) rfl ho
theorem s26_23 {sc : Scr} {l0 l1 : Value} {x : Int32} {stk : List Value} {h : AHp} {post : Option Value → AHp → Prop} : Ev sc 26 23 [l0, l1, .int x] stk h post = Ev sc 26 26 [l0, l1, .int (x + 1)] stk h post := e_1 (e := (23, .iinc 2 1, 0, 0)) (q := (26, [l0, l1, .int (x + 1)], stk, h)) (by decide +kernel) rfl rfl
theorem s26_26 {sc : Scr} {l0 l1 l2 : Value}  {stk : List Value} {h : AHp} {post : Option Value → AHp → Prop} : Ev sc 26 26 [l0, l1, l2] stk h post = Ev sc 26 2 [l0, l1, l2] stk h post := e_1 (e := (26, .goto (-24), 0, 0)) (q := (2, [l0, l1, l2], stk, h)) (by decide +kernel) rfl rfl
theorem s26_29 {sc : Scr} {l0 l1 l2 : Value}  {stk : List Value} {h : AHp} {post : Option Value → AHp → Prop} : Ev sc 26 29 [l0, l1, l2] stk h post = Ev sc 26 30 [l0, l1, l2] (.int (0) :: stk) h post := e_1 (e := (29, .iconst 0, 0, 0)) (q := (30, [l0, l1, l2], (.int (0) :: stk), h)) (by decide +kernel) rfl rfl
theorem s26_30 {sc : Scr} {l0 l1 l2 : Value} {x : Int32} {stk : List Value} {h : AHp} {post : Option Value → AHp → Prop} : Ev sc 26 30 [l0, l1, l2] (.int x :: stk) h post = Ev sc 26 31 [l0, l1, .int x] stk h post := e_1 (e := (30, .istore_n 2, 0, 0)) (q := (31, [l0, l1, .int x], stk, h)) (by decide +kernel) rfl rfl
theorem s26_31 {sc : Scr} {l0 l1 : Value} {x : Int32} {stk : List Value} {h : AHp} {post : Option Value → AHp → Prop} : Ev sc 26 31 [l0, l1, .int x] stk h post = Ev sc 26 32 [l0, l1, .int x] (.int x :: stk) h post := e_1 (e := (31, .iload_n 2, 0, 0)) (q := (32, [l0, l1, .int x], (.int x :: stk), h)) (by decide +kernel) rfl rfl
theorem s26_32 {sc : Scr} {l0 l1 l2 : Value}  {stk : List Value} {h : AHp} {post : Option Value → AHp → Prop} : Ev sc 26 32 [l0, l1, l2] stk h post = Ev sc 26 34 [l0, l1, l2] (.int (8) :: stk) h post := e_1 (e := (32, .bipush 8, 0, 0)) (q := (34, [l0, l1, l2], (.int (8) :: stk), h)) (by decide +kernel) rfl rfl
theorem s26_34 {sc : Scr} {l0 l1 l2 : Value} {x z : Int32} {stk : List Value} {h : AHp} {post : Option Value → AHp → Prop} : Ev sc 26 34 [l0, l1, l2] (.int z :: .int x :: stk) h post = (if z ≤ x then Ev sc 26 58 [l0, l1, l2] stk h post else Ev sc 26 37 [l0, l1, l2] stk h post) := e_icmp_ge (o := 24) (r1 := 0) (r2 := 0) 58 (by decide +kernel) rfl
theorem s26_37 {sc : Scr} {l1 l2 : Value} {x : Nat} {stk : List Value} {h : AHp} {post : Option Value → AHp → Prop} : Ev sc 26 37 [.ref x, l1, l2] stk h post = Ev sc 26 38 [.ref x, l1, l2] (.ref x :: stk) h post := e_1 (e := (37, .aload_n 0, 0, 0)) (q := (38, [.ref x, l1, l2], (.ref x :: stk), h)) (by decide +kernel) rfl rfl
theorem s26_38 {sc : Scr} {l0 l1 l2 : Value} {x : Nat} {stk : List Value} {h : AHp} {post : Option Value → AHp → Prop} : Ev sc 26 38 [l0, l1, l2] (.ref x :: stk) h post = oB (fldv h x 3 5) (fun v => Ev sc 26 41 [l0, l1, l2] (v :: stk) h post) := e_get (i := 33) (r1 := 3) (r2 := 5) (by decide +kernel)
theorem s26_41 {sc : Scr} {l0 l1 : Value} {x : Int32} {stk : List Value} {h : AHp} {post : Option Value → AHp → Prop} : Ev sc 26 41 [l0, l1, .int x] stk h post = Ev sc 26 42 [l0, l1, .int x] (.int x :: stk) h post := e_1 (e := (41, .iload_n 2, 0, 0)) (q := (42, [l0, l1, .int x], (.int x :: stk), h)) (by decide +kernel) rfl rfl
theorem s26_42 {sc : Scr} {l0 l1 l2 : Value} {x : Nat} {j : Int32} {stk : List Value} {h : AHp} {post : Option Value → AHp → Prop} : Ev sc 26 42 [l0, l1, l2] (.int j :: .ref x :: stk) h post = oB (ldq h x j) (fun v => Ev sc 26 43 [l0, l1, l2] (v :: stk) h post) := e_ldq (r1 := 0) (r2 := 0) (by decide +kernel)
theorem s26_43 {sc : Scr} {l0 l2 : Value} {x : Nat} {stk : List Value} {h : AHp} {post : Option Value → AHp → Prop} : Ev sc 26 43 [l0, .ref x, l2] stk h post = Ev sc 26 44 [l0, .ref x, l2] (.ref x :: stk) h post := e_1 (e := (43, .aload_n 1, 0, 0)) (q := (44, [l0, .ref x, l2], (.ref x :: stk), h)) (by decide +kernel) rfl rfl
theorem s26_44 {sc : Scr} {l0 l1 l2 : Value} {x : Nat} {stk : List Value} {h : AHp} {post : Option Value → AHp → Prop} : Ev sc 26 44 [l0, l1, l2] (.ref x :: stk) h post = oB (fldv h x 3 5) (fun v => Ev sc 26 47 [l0, l1, l2] (v :: stk) h post) := e_get (i := 33) (r1 := 3) (r2 := 5) (by decide +kernel)
theorem s26_47 {sc : Scr} {l0 l1 : Value} {x : Int32} {stk : List Value} {h : AHp} {post : Option Value → AHp → Prop} : Ev sc 26 47 [l0, l1, .int x] stk h post = Ev sc 26 48 [l0, l1, .int x] (.int x :: stk) h post := e_1 (e := (47, .iload_n 2, 0, 0)) (q := (48, [l0, l1, .int x], (.int x :: stk), h)) (by decide +kernel) rfl rfl
theorem s26_48 {sc : Scr} {l0 l1 l2 : Value} {x : Nat} {j : Int32} {stk : List Value} {h : AHp} {post : Option Value → AHp → Prop} : Ev sc 26 48 [l0, l1, l2] (.int j :: .ref x :: stk) h post = oB (ldq h x j) (fun v => Ev sc 26 49 [l0, l1, l2] (v :: stk) h post) := e_ldq (r1 := 0) (r2 := 0) (by decide +kernel)
theorem s26_49 {sc : Scr} {l0 l1 l2 : Value} {a0 : Nat}  {x : Nat} {h : AHp} {post : Option Value → AHp → Prop} (ho : isO h x 1) : Ev sc 26 49 [l0, l1, l2] [.ref a0, .ref x] h post = Call 15 [.ref x, .ref a0] h (fun rv h2 => Ev sc 26 52 [l0, l1, l2] (rv.toList ++ []) h2 post) := e_v (i := 58) (z := 15) (r2 := 0) (as := [.ref a0]) (rest := []) (by decide +kernel) rfl rfl (Nat.le_of_ble_eq_true rfl) rfl ho
theorem s26_52 {sc : Scr} {l0 l1 : Value} {x : Int32} {stk : List Value} {h : AHp} {post : Option Value → AHp → Prop} : Ev sc 26 52 [l0, l1, .int x] stk h post = Ev sc 26 55 [l0, l1, .int (x + 1)] stk h post := e_1 (e := (52, .iinc 2 1, 0, 0)) (q := (55, [l0, l1, .int (x + 1)], stk, h)) (by decide +kernel) rfl rfl
theorem s26_55 {sc : Scr} {l0 l1 l2 : Value}  {stk : List Value} {h : AHp} {post : Option Value → AHp → Prop} : Ev sc 26 55 [l0, l1, l2] stk h post = Ev sc 26 31 [l0, l1, l2] stk h post := e_1 (e := (55, .goto (-24), 0, 0)) (q := (31, [l0, l1, l2], stk, h)) (by decide +kernel) rfl rfl
theorem s26_58 {sc : Scr} {l0 l2 : Value} {x : Nat} {stk : List Value} {h : AHp} {post : Option Value → AHp → Prop} : Ev sc 26 58 [l0, .ref x, l2] stk h post = Ev sc 26 59 [l0, .ref x, l2] (.ref x :: stk) h post := e_1 (e := (58, .aload_n 1, 0, 0)) (q := (59, [l0, .ref x, l2], (.ref x :: stk), h)) (by decide +kernel) rfl rfl
theorem s26_59 {sc : Scr} {l0 l1 l2 : Value} {x : Nat} {stk : List Value} {h : AHp} {post : Option Value → AHp → Prop} : Ev sc 26 59 [l0, l1, l2] (.ref x :: stk) h post = oB (fldv h x 3 2) (fun v => Ev sc 26 62 [l0, l1, l2] (v :: stk) h post) := e_get (i := 21) (r1 := 3) (r2 := 2) (by decide +kernel)
theorem s26_62 {sc : Scr} {l0 l1 l2 : Value}  {stk : List Value} {h : AHp} {post : Option Value → AHp → Prop} : Ev sc 26 62 [l0, l1, l2] stk h post = Ev sc 26 63 [l0, l1, l2] (.int (0) :: stk) h post := e_1 (e := (62, .iconst 0, 0, 0)) (q := (63, [l0, l1, l2], (.int (0) :: stk), h)) (by decide +kernel) rfl rfl
theorem s26_63 {sc : Scr} {l1 l2 : Value} {x : Nat} {stk : List Value} {h : AHp} {post : Option Value → AHp → Prop} : Ev sc 26 63 [.ref x, l1, l2] stk h post = Ev sc 26 64 [.ref x, l1, l2] (.ref x :: stk) h post := e_1 (e := (63, .aload_n 0, 0, 0)) (q := (64, [.ref x, l1, l2], (.ref x :: stk), h)) (by decide +kernel) rfl rfl
theorem s26_64 {sc : Scr} {l0 l1 l2 : Value} {x : Nat} {stk : List Value} {h : AHp} {post : Option Value → AHp → Prop} : Ev sc 26 64 [l0, l1, l2] (.ref x :: stk) h post = oB (fldv h x 3 2) (fun v => Ev sc 26 67 [l0, l1, l2] (v :: stk) h post) := e_get (i := 21) (r1 := 3) (r2 := 2) (by decide +kernel)
theorem s26_67 {sc : Scr} {l0 l1 l2 : Value}  {stk : List Value} {h : AHp} {post : Option Value → AHp → Prop} : Ev sc 26 67 [l0, l1, l2] stk h post = Ev sc 26 68 [l0, l1, l2] (.int (0) :: stk) h post := e_1 (e := (67, .iconst 0, 0, 0)) (q := (68, [l0, l1, l2], (.int (0) :: stk), h)) (by decide +kernel) rfl rfl
theorem s26_68 {sc : Scr} {l0 l1 l2 : Value}  {stk : List Value} {h : AHp} {post : Option Value → AHp → Prop} : Ev sc 26 68 [l0, l1, l2] stk h post = Ev sc 26 70 [l0, l1, l2] (.int (8) :: stk) h post := e_1 (e := (68, .bipush 8, 0, 0)) (q := (70, [l0, l1, l2], (.int (8) :: stk), h)) (by decide +kernel) rfl rfl
theorem s26_70 {sc : Scr} {l0 l1 l2 : Value} {x z : Nat} {j k v : Int32} {h : AHp} {post : Option Value → AHp → Prop} : Ev sc 26 70 [l0, l1, l2] [.int v, .int k, .ref z, .int j, .ref x] h post = oB (acp h x j z k v) (fun h2 => Ev sc 26 73 [l0, l1, l2] [] h2 post) := e_acp (i := 61) (r2 := 0) (by decide +kernel) ⟨by decide, rfl⟩
theorem s26_73 {sc : Scr} {l0 l2 : Value} {x : Nat} {stk : List Value} {h : AHp} {post : Option Value → AHp → Prop} : Ev sc 26 73 [l0, .ref x, l2] stk h post = Ev sc 26 74 [l0, .ref x, l2] (.ref x :: stk) h post := e_1 (e := (73, .aload_n 1, 0, 0)) (q := (74, [l0, .ref x, l2], (.ref x :: stk), h)) (by decide +kernel) rfl rfl
theorem s26_74 {sc : Scr} {l0 l1 l2 : Value} {x : Nat} {stk : List Value} {h : AHp} {post : Option Value → AHp → Prop} : Ev sc 26 74 [l0, l1, l2] (.ref x :: stk) h post = oB (fldv h x 3 3) (fun v => Ev sc 26 77 [l0, l1, l2] (v :: stk) h post) := e_get (i := 25) (r1 := 3) (r2 := 3) (by decide +kernel)
theorem s26_77 {sc : Scr} {l0 l1 l2 : Value}  {stk : List Value} {h : AHp} {post : Option Value → AHp → Prop} : Ev sc 26 77 [l0, l1, l2] stk h post = Ev sc 26 78 [l0, l1, l2] (.int (0) :: stk) h post := e_1 (e := (77, .iconst 0, 0, 0)) (q := (78, [l0, l1, l2], (.int (0) :: stk), h)) (by decide +kernel) rfl rfl
theorem s26_78 {sc : Scr} {l1 l2 : Value} {x : Nat} {stk : List Value} {h : AHp} {post : Option Value → AHp → Prop} : Ev sc 26 78 [.ref x, l1, l2] stk h post = Ev sc 26 79 [.ref x, l1, l2] (.ref x :: stk) h post := e_1 (e := (78, .aload_n 0, 0, 0)) (q := (79, [.ref x, l1, l2], (.ref x :: stk), h)) (by decide +kernel) rfl rfl
theorem s26_79 {sc : Scr} {l0 l1 l2 : Value} {x : Nat} {stk : List Value} {h : AHp} {post : Option Value → AHp → Prop} : Ev sc 26 79 [l0, l1, l2] (.ref x :: stk) h post = oB (fldv h x 3 3) (fun v => Ev sc 26 82 [l0, l1, l2] (v :: stk) h post) := e_get (i := 25) (r1 := 3) (r2 := 3) (by decide +kernel)
theorem s26_82 {sc : Scr} {l0 l1 l2 : Value}  {stk : List Value} {h : AHp} {post : Option Value → AHp → Prop} : Ev sc 26 82 [l0, l1, l2] stk h post = Ev sc 26 83 [l0, l1, l2] (.int (0) :: stk) h post := e_1 (e := (82, .iconst 0, 0, 0)) (q := (83, [l0, l1, l2], (.int (0) :: stk), h)) (by decide +kernel) rfl rfl
theorem s26_83 {sc : Scr} {l0 l1 l2 : Value}  {stk : List Value} {h : AHp} {post : Option Value → AHp → Prop} : Ev sc 26 83 [l0, l1, l2] stk h post = Ev sc 26 85 [l0, l1, l2] (.int (8) :: stk) h post := e_1 (e := (83, .bipush 8, 0, 0)) (q := (85, [l0, l1, l2], (.int (8) :: stk), h)) (by decide +kernel) rfl rfl
theorem s26_85 {sc : Scr} {l0 l1 l2 : Value} {x z : Nat} {j k v : Int32} {h : AHp} {post : Option Value → AHp → Prop} : Ev sc 26 85 [l0, l1, l2] [.int v, .int k, .ref z, .int j, .ref x] h post = oB (acp h x j z k v) (fun h2 => Ev sc 26 88 [l0, l1, l2] [] h2 post) := e_acp (i := 61) (r2 := 0) (by decide +kernel) ⟨by decide, rfl⟩
theorem s26_88 {sc : Scr} {l1 l2 : Value} {x : Nat} {stk : List Value} {h : AHp} {post : Option Value → AHp → Prop} : Ev sc 26 88 [.ref x, l1, l2] stk h post = Ev sc 26 89 [.ref x, l1, l2] (.ref x :: stk) h post := e_1 (e := (88, .aload_n 0, 0, 0)) (q := (89, [.ref x, l1, l2], (.ref x :: stk), h)) (by decide +kernel) rfl rfl
theorem s26_89 {sc : Scr} {l0 l2 : Value} {x : Nat} {stk : List Value} {h : AHp} {post : Option Value → AHp → Prop} : Ev sc 26 89 [l0, .ref x, l2] stk h post = Ev sc 26 90 [l0, .ref x, l2] (.ref x :: stk) h post := e_1 (e := (89, .aload_n 1, 0, 0)) (q := (90, [l0, .ref x, l2], (.ref x :: stk), h)) (by decide +kernel) rfl rfl
theorem s26_90 {sc : Scr} {l0 l1 l2 : Value} {x : Nat} {stk : List Value} {h : AHp} {post : Option Value → AHp → Prop} : Ev sc 26 90 [l0, l1, l2] (.ref x :: stk) h post = oB (fldv h x 3 1) (fun v => Ev sc 26 93 [l0, l1, l2] (v :: stk) h post) := e_get (i := 17) (r1 := 3) (r2 := 1) (by decide +kernel)
theorem s26_93 {sc : Scr} {l0 l1 l2 : Value} {x : Nat} {v : Int32} {stk : List Value} {h : AHp} {post : Option Value → AHp → Prop} : Ev sc 26 93 [l0, l1, l2] (.int v :: .ref x :: stk) h post = oB (stf h x 3 1 (.int v)) (fun h2 => Ev sc 26 96 [l0, l1, l2] stk h2 post) := e_put (i := 17) (r1 := 3) (r2 := 1) (by decide +kernel)
theorem s26_96 {sc : Scr} {l1 l2 : Value} {x : Nat} {stk : List Value} {h : AHp} {post : Option Value → AHp → Prop} : Ev sc 26 96 [.ref x, l1, l2] stk h post = Ev sc 26 97 [.ref x, l1, l2] (.ref x :: stk) h post := e_1 (e := (96, .aload_n 0, 0, 0)) (q := (97, [.ref x, l1, l2], (.ref x :: stk), h)) (by decide +kernel) rfl rfl
theorem s26_97 {sc : Scr} {l0 l2 : Value} {x : Nat} {stk : List Value} {h : AHp} {post : Option Value → AHp → Prop} : Ev sc 26 97 [l0, .ref x, l2] stk h post = Ev sc 26 98 [l0, .ref x, l2] (.ref x :: stk) h post := e_1 (e := (97, .aload_n 1, 0, 0)) (q := (98, [l0, .ref x, l2], (.ref x :: stk), h)) (by decide +kernel) rfl rfl
theorem s26_98 {sc : Scr} {l0 l1 l2 : Value} {x : Nat} {stk : List Value} {h : AHp} {post : Option Value → AHp → Prop} : Ev sc 26 98 [l0, l1, l2] (.ref x :: stk) h post = oB (fldv h x 3 4) (fun v => Ev sc 26 101 [l0, l1, l2] (v :: stk) h post) := e_get (i := 28) (r1 := 3) (r2 := 4) (by decide +kernel)
theorem s26_101 {sc : Scr} {l0 l1 l2 : Value} {x : Nat} {v : Int32} {stk : List Value} {h : AHp} {post : Option Value → AHp → Prop} : Ev sc 26 101 [l0, l1, l2] (.int v :: .ref x :: stk) h post = oB (stf h x 3 4 (.int v)) (fun h2 => Ev sc 26 104 [l0, l1, l2] stk h2 post) := e_put (i := 28) (r1 := 3) (r2 := 4) (by decide +kernel)
theorem s26_104 {sc : Scr} {l1 l2 : Value} {x : Nat} {stk : List Value} {h : AHp} {post : Option Value → AHp → Prop} : Ev sc 26 104 [.ref x, l1, l2] stk h post = Ev sc 26 105 [.ref x, l1, l2] (.ref x :: stk) h post := e_1 (e := (104, .aload_n 0, 0, 0)) (q := (105, [.ref x, l1, l2], (.ref x :: stk), h)) (by decide +kernel) rfl rfl
theorem s26_105 {sc : Scr} {l0 l2 : Value} {x : Nat} {stk : List Value} {h : AHp} {post : Option Value → AHp → Prop} : Ev sc 26 105 [l0, .ref x, l2] stk h post = Ev sc 26 106 [l0, .ref x, l2] (.ref x :: stk) h post := e_1 (e := (105, .aload_n 1, 0, 0)) (q := (106, [l0, .ref x, l2], (.ref x :: stk), h)) (by decide +kernel) rfl rfl
theorem s26_106 {sc : Scr} {l0 l1 l2 : Value} {x : Nat} {stk : List Value} {h : AHp} {post : Option Value → AHp → Prop} : Ev sc 26 106 [l0, l1, l2] (.ref x :: stk) h post = oB (fldv h x 3 6) (fun v => Ev sc 26 109 [l0, l1, l2] (v :: stk) h post) := e_get (i := 37) (r1 := 3) (r2 := 6) (by decide +kernel)
theorem s26_109 {sc : Scr} {l0 l1 l2 : Value} {x : Nat} {v : Int32} {stk : List Value} {h : AHp} {post : Option Value → AHp → Prop} : Ev sc 26 109 [l0, l1, l2] (.int v :: .ref x :: stk) h post = oB (stf h x 3 6 (.int v)) (fun h2 => Ev sc 26 112 [l0, l1, l2] stk h2 post) := e_put (i := 37) (r1 := 3) (r2 := 6) (by decide +kernel)
theorem s26_112 {sc : Scr} {l1 l2 : Value} {x : Nat} {stk : List Value} {h : AHp} {post : Option Value → AHp → Prop} : Ev sc 26 112 [.ref x, l1, l2] stk h post = Ev sc 26 113 [.ref x, l1, l2] (.ref x :: stk) h post := e_1 (e := (112, .aload_n 0, 0, 0)) (q := (113, [.ref x, l1, l2], (.ref x :: stk), h)) (by decide +kernel) rfl rfl
theorem s26_113 {sc : Scr} {l0 l2 : Value} {x : Nat} {stk : List Value} {h : AHp} {post : Option Value → AHp → Prop} : Ev sc 26 113 [l0, .ref x, l2] stk h post = Ev sc 26 114 [l0, .ref x, l2] (.ref x :: stk) h post := e_1 (e := (113, .aload_n 1, 0, 0)) (q := (114, [l0, .ref x, l2], (.ref x :: stk), h)) (by decide +kernel) rfl rfl
theorem s26_114 {sc : Scr} {l0 l1 l2 : Value} {x : Nat} {stk : List Value} {h : AHp} {post : Option Value → AHp → Prop} : Ev sc 26 114 [l0, l1, l2] (.ref x :: stk) h post = oB (fldv h x 3 7) (fun v => Ev sc 26 117 [l0, l1, l2] (v :: stk) h post) := e_get (i := 40) (r1 := 3) (r2 := 7) (by decide +kernel)
theorem s26_117 {sc : Scr} {l0 l1 l2 : Value} {x : Nat} {v : Int32} {stk : List Value} {h : AHp} {post : Option Value → AHp → Prop} : Ev sc 26 117 [l0, l1, l2] (.int v :: .ref x :: stk) h post = oB (stf h x 3 7 (.int v)) (fun h2 => Ev sc 26 120 [l0, l1, l2] stk h2 post) := e_put (i := 40) (r1 := 3) (r2 := 7) (by decide +kernel)
theorem s26_120 {sc : Scr} {l1 l2 : Value} {x : Nat} {stk : List Value} {h : AHp} {post : Option Value → AHp → Prop} : Ev sc 26 120 [.ref x, l1, l2] stk h post = Ev sc 26 121 [.ref x, l1, l2] (.ref x :: stk) h post := e_1 (e := (120, .aload_n 0, 0, 0)) (q := (121, [.ref x, l1, l2], (.ref x :: stk), h)) (by decide +kernel) rfl rfl
theorem s26_121 {sc : Scr} {l0 l2 : Value} {x : Nat} {stk : List Value} {h : AHp} {post : Option Value → AHp → Prop} : Ev sc 26 121 [l0, .ref x, l2] stk h post = Ev sc 26 122 [l0, .ref x, l2] (.ref x :: stk) h post := e_1 (e := (121, .aload_n 1, 0, 0)) (q := (122, [l0, .ref x, l2], (.ref x :: stk), h)) (by decide +kernel) rfl rfl
theorem s26_122 {sc : Scr} {l0 l1 l2 : Value} {x : Nat} {stk : List Value} {h : AHp} {post : Option Value → AHp → Prop} : Ev sc 26 122 [l0, l1, l2] (.ref x :: stk) h post = oB (fldv h x 3 8) (fun v => Ev sc 26 125 [l0, l1, l2] (v :: stk) h post) := e_get (i := 43) (r1 := 3) (r2 := 8) (by decide +kernel)
theorem s26_125 {sc : Scr} {l0 l1 l2 : Value} {x : Nat} {v : Int32} {stk : List Value} {h : AHp} {post : Option Value → AHp → Prop} : Ev sc 26 125 [l0, l1, l2] (.int v :: .ref x :: stk) h post = oB (stf h x 3 8 (.int v)) (fun h2 => Ev sc 26 128 [l0, l1, l2] stk h2 post) := e_put (i := 43) (r1 := 3) (r2 := 8) (by decide +kernel)
theorem s26_128 {sc : Scr} {l1 l2 : Value} {x : Nat} {stk : List Value} {h : AHp} {post : Option Value → AHp → Prop} : Ev sc 26 128 [.ref x, l1, l2] stk h post = Ev sc 26 129 [.ref x, l1, l2] (.ref x :: stk) h post := e_1 (e := (128, .aload_n 0, 0, 0)) (q := (129, [.ref x, l1, l2], (.ref x :: stk), h)) (by decide +kernel) rfl rfl
theorem s26_129 {sc : Scr} {l0 l2 : Value} {x : Nat} {stk : List Value} {h : AHp} {post : Option Value → AHp → Prop} : Ev sc 26 129 [l0, .ref x, l2] stk h post = Ev sc 26 130 [l0, .ref x, l2] (.ref x :: stk) h post := e_1 (e := (129, .aload_n 1, 0, 0)) (q := (130, [l0, .ref x, l2], (.ref x :: stk), h)) (by decide +kernel) rfl rfl
theorem s26_130 {sc : Scr} {l0 l1 l2 : Value} {x : Nat} {stk : List Value} {h : AHp} {post : Option Value → AHp → Prop} : Ev sc 26 130 [l0, l1, l2] (.ref x :: stk) h post = oB (fldv h x 3 9) (fun v => Ev sc 26 133 [l0, l1, l2] (v :: stk) h post) := e_get (i := 46) (r1 := 3) (r2 := 9) (by decide +kernel)
theorem s26_133 {sc : Scr} {l0 l1 l2 : Value} {x : Nat} {v : Int32} {stk : List Value} {h : AHp} {post : Option Value → AHp → Prop} : Ev sc 26 133 [l0, l1, l2] (.int v :: .ref x :: stk) h post = oB (stf h x 3 9 (.int v)) (fun h2 => Ev sc 26 136 [l0, l1, l2] stk h2 post) := e_put (i := 46) (r1 := 3) (r2 := 9) (by decide +kernel)
theorem s26_136 {sc : Scr} {l1 l2 : Value} {x : Nat} {stk : List Value} {h : AHp} {post : Option Value → AHp → Prop} : Ev sc 26 136 [.ref x, l1, l2] stk h post = Ev sc 26 137 [.ref x, l1, l2] (.ref x :: stk) h post := e_1 (e := (136, .aload_n 0, 0, 0)) (q := (137, [.ref x, l1, l2], (.ref x :: stk), h)) (by decide +kernel) rfl rfl
theorem s26_137 {sc : Scr} {l0 l2 : Value} {x : Nat} {stk : List Value} {h : AHp} {post : Option Value → AHp → Prop} : Ev sc 26 137 [l0, .ref x, l2] stk h post = Ev sc 26 138 [l0, .ref x, l2] (.ref x :: stk) h post := e_1 (e := (137, .aload_n 1, 0, 0)) (q := (138, [l0, .ref x, l2], (.ref x :: stk), h)) (by decide +kernel) rfl rfl
theorem s26_138 {sc : Scr} {l0 l1 l2 : Value} {x : Nat} {stk : List Value} {h : AHp} {post : Option Value → AHp → Prop} : Ev sc 26 138 [l0, l1, l2] (.ref x :: stk) h post = oB (fldv h x 3 10) (fun v => Ev sc 26 141 [l0, l1, l2] (v :: stk) h post) := e_get (i := 49) (r1 := 3) (r2 := 10) (by decide +kernel)
theorem s26_141 {sc : Scr} {l0 l1 l2 : Value} {x : Nat} {v : Int32} {stk : List Value} {h : AHp} {post : Option Value → AHp → Prop} : Ev sc 26 141 [l0, l1, l2] (.int v :: .ref x :: stk) h post = oB (stf h x 3 10 (.int v)) (fun h2 => Ev sc 26 144 [l0, l1, l2] stk h2 post) := e_put (i := 49) (r1 := 3) (r2 := 10) (by decide +kernel)
theorem s26_144 {sc : Scr} {l0 l1 l2 : Value}  {h : AHp} {post : Option Value → AHp → Prop} : Ev sc 26 144 [l0, l1, l2] [] h post = post none h := e_r (e := (144, .return_, 0, 0)) (by decide +kernel) rfl rfl
-- 27 X3_hasView (I)Z
theorem s27_e {a0 : Nat} {a1 : Int32} {h : AHp} {post : Option Value → AHp → Prop} : Call 27 [.ref a0, .int a1] h post = Ev none 27 0 [.ref a0, .int a1] [] h post := rfl
theorem s27_0 {sc : Scr} {l0 : Value} {x : Int32} {stk : List Value} {h : AHp} {post : Option Value → AHp → Prop} : Ev sc 27 0 [l0, .int x] stk h post = Ev sc 27 1 [l0, .int x] (.int x :: stk) h post := e_1 (e := (0, .iload_n 1, 0, 0)) (q := (1, [l0, .int x], (.int x :: stk), h)) (by decide +kernel) rfl rfl
theorem s27_1 {sc : Scr} {l0 l1 : Value}  {stk : List Value} {h : AHp} {post : Option Value → AHp → Prop} : Ev sc 27 1 [l0, l1] stk h post = Ev sc 27 2 [l0, l1] (.int (0) :: stk) h post := e_1 (e := (1, .iconst 0, 0, 0)) (q := (2, [l0, l1], (.int (0) :: stk), h)) (by decide +kernel) rfl rfl
theorem s27_2 {sc : Scr} {l0 l1 : Value}  {stk : List Value} {h : AHp} {post : Option Value → AHp → Prop} : Ev sc 27 2 [l0, l1] stk h post = Ev sc 27 3 [l0, l1] (.int (5) :: stk) h post := e_1 (e := (2, .iconst 5, 0, 0)) (q := (3, [l0, l1], (.int (5) :: stk), h)) (by decide +kernel) rfl rfl
theorem s27_3 {sc : Scr} {l0 l1 : Value} {a0 : Int32} {a1 : Int32} {a2 : Int32}  {h : AHp} {post : Option Value → AHp → Prop} : Ev sc 27 3 [l0, l1] [.int a0, .int a1, .int a2] h post = Call 85 [.int a2, .int a1, .int a0] h (fun rv h2 => Ev sc 27 6 [l0, l1] (rv.toList ++ []) h2 post) := e_s (i := 67) (z := 85) (r2 := 1) (as := [.int a2, .int a1, .int a0]) (rest := []) (by decide +kernel) rfl rfl rfl (Nat.le_of_ble_eq_true rfl) rfl
theorem s27_6 {sc : Scr} {l0 l1 : Value} {x : Int32} {stk : List Value} {h : AHp} {post : Option Value → AHp → Prop} : Ev sc 27 6 [l0, l1] (.int x :: stk) h post = (if x = 0 then Ev sc 27 24 [l0, l1] stk h post else Ev sc 27 9 [l0, l1] stk h post) := e_if_eq (o := 18) (r1 := 0) (r2 := 0) 24 (by decide +kernel) rfl
theorem s27_9 {sc : Scr} {l1 : Value} {x : Nat} {stk : List Value} {h : AHp} {post : Option Value → AHp → Prop} : Ev sc 27 9 [.ref x, l1] stk h post = Ev sc 27 10 [.ref x, l1] (.ref x :: stk) h post := e_1 (e := (9, .aload_n 0, 0, 0)) (q := (10, [.ref x, l1], (.ref x :: stk), h)) (by decide +kernel) rfl rfl
theorem s27_10 {sc : Scr} {l0 l1 : Value} {x : Nat} {stk : List Value} {h : AHp} {post : Option Value → AHp → Prop} : Ev sc 27 10 [l0, l1] (.ref x :: stk) h post = oB (fldv h x 3 1) (fun v => Ev sc 27 13 [l0, l1] (v :: stk) h post) := e_get (i := 17) (r1 := 3) (r2 := 1) (by decide +kernel)
theorem s27_13 {sc : Scr} {l0 l1 : Value}  {stk : List Value} {h : AHp} {post : Option Value → AHp → Prop} : Ev sc 27 13 [l0, l1] stk h post = Ev sc 27 14 [l0, l1] (.int (1) :: stk) h post := e_1 (e := (13, .iconst 1, 0, 0)) (q := (14, [l0, l1], (.int (1) :: stk), h)) (by decide +kernel) rfl rfl
theorem s27_14 {sc : Scr} {l0 : Value} {x : Int32} {stk : List Value} {h : AHp} {post : Option Value → AHp → Prop} : Ev sc 27 14 [l0, .int x] stk h post = Ev sc 27 15 [l0, .int x] (.int x :: stk) h post := e_1 (e := (14, .iload_n 1, 0, 0)) (q := (15, [l0, .int x], (.int x :: stk), h)) (by decide +kernel) rfl rfl
theorem s27_15 {sc : Scr} {l0 l1 : Value} {x z : Int32} {stk : List Value} {h : AHp} {post : Option Value → AHp → Prop} : Ev sc 27 15 [l0, l1] (.int z :: .int x :: stk) h post = Ev sc 27 16 [l0, l1] (.int (x <<< (z &&& 31)) :: stk) h post := e_1 (e := (15, .ishl, 0, 0)) (q := (16, [l0, l1], (.int (x <<< (z &&& 31)) :: stk), h)) (by decide +kernel) rfl rfl
theorem s27_16 {sc : Scr} {l0 l1 : Value} {x z : Int32} {stk : List Value} {h : AHp} {post : Option Value → AHp → Prop} : Ev sc 27 16 [l0, l1] (.int z :: .int x :: stk) h post = Ev sc 27 17 [l0, l1] (.int (x &&& z) :: stk) h post := e_1 (e := (16, .iand, 0, 0)) (q := (17, [l0, l1], (.int (x &&& z) :: stk), h)) (by decide +kernel) rfl rfl
theorem s27_17 {sc : Scr} {l0 l1 : Value} {x : Int32} {stk : List Value} {h : AHp} {post : Option Value → AHp → Prop} : Ev sc 27 17 [l0, l1] (.int x :: stk) h post = (if x = 0 then Ev sc 27 24 [l0, l1] stk h post else Ev sc 27 20 [l0, l1] stk h post) := e_if_eq (o := 7) (r1 := 0) (r2 := 0) 24 (by decide +kernel) rfl
theorem s27_20 {sc : Scr} {l0 l1 : Value}  {stk : List Value} {h : AHp} {post : Option Value → AHp → Prop} : Ev sc 27 20 [l0, l1] stk h post = Ev sc 27 21 [l0, l1] (.int (1) :: stk) h post := e_1 (e := (20, .iconst 1, 0, 0)) (q := (21, [l0, l1], (.int (1) :: stk), h)) (by decide +kernel) rfl rfl
theorem s27_21 {sc : Scr} {l0 l1 : Value}  {stk : List Value} {h : AHp} {post : Option Value → AHp → Prop} : Ev sc 27 21 [l0, l1] stk h post = Ev sc 27 25 [l0, l1] stk h post := e_1 (e := (21, .goto 4, 0, 0)) (q := (25, [l0, l1], stk, h)) (by decide +kernel) rfl rfl
theorem s27_24 {sc : Scr} {l0 l1 : Value}  {stk : List Value} {h : AHp} {post : Option Value → AHp → Prop} : Ev sc 27 24 [l0, l1] stk h post = Ev sc 27 25 [l0, l1] (.int (0) :: stk) h post := e_1 (e := (24, .iconst 0, 0, 0)) (q := (25, [l0, l1], (.int (0) :: stk), h)) (by decide +kernel) rfl rfl
theorem s27_25 {sc : Scr} {l0 l1 : Value} {x : Int32} {h : AHp} {post : Option Value → AHp → Prop} : Ev sc 27 25 [l0, l1] [.int x] h post = ((x = 0 ∨ x = 1) ∧ post (some (.int x)) h) := e_retb (r1 := 0) (r2 := 0) (by decide +kernel) rfl
-- 28 X3_hasWriter (I)Z
theorem s28_e {a0 : Nat} {a1 : Int32} {h : AHp} {post : Option Value → AHp → Prop} : Call 28 [.ref a0, .int a1] h post = Ev none 28 0 [.ref a0, .int a1] [] h post := rfl
theorem s28_0 {sc : Scr} {l0 : Value} {x : Int32} {stk : List Value} {h : AHp} {post : Option Value → AHp → Prop} : Ev sc 28 0 [l0, .int x] stk h post = Ev sc 28 1 [l0, .int x] (.int x :: stk) h post := e_1 (e := (0, .iload_n 1, 0, 0)) (q := (1, [l0, .int x], (.int x :: stk), h)) (by decide +kernel) rfl rfl
theorem s28_1 {sc : Scr} {l0 l1 : Value}  {stk : List Value} {h : AHp} {post : Option Value → AHp → Prop} : Ev sc 28 1 [l0, l1] stk h post = Ev sc 28 2 [l0, l1] (.int (0) :: stk) h post := e_1 (e := (1, .iconst 0, 0, 0)) (q := (2, [l0, l1], (.int (0) :: stk), h)) (by decide +kernel) rfl rfl
theorem s28_2 {sc : Scr} {l1 : Value} {x : Nat} {stk : List Value} {h : AHp} {post : Option Value → AHp → Prop} : Ev sc 28 2 [.ref x, l1] stk h post = Ev sc 28 3 [.ref x, l1] (.ref x :: stk) h post := e_1 (e := (2, .aload_n 0, 0, 0)) (q := (3, [.ref x, l1], (.ref x :: stk), h)) (by decide +kernel) rfl rfl
theorem s28_3 {sc : Scr} {l0 l1 : Value} {x : Nat} {stk : List Value} {h : AHp} {post : Option Value → AHp → Prop} : Ev sc 28 3 [l0, l1] (.ref x :: stk) h post = oB (fldv h x 3 4) (fun v => Ev sc 28 6 [l0, l1] (v :: stk) h post) := e_get (i := 28) (r1 := 3) (r2 := 4) (by decide +kernel)
theorem s28_6 {sc : Scr} {l0 l1 : Value}  {stk : List Value} {h : AHp} {post : Option Value → AHp → Prop} : Ev sc 28 6 [l0, l1] stk h post = Ev sc 28 7 [l0, l1] (.int (1) :: stk) h post := e_1 (e := (6, .iconst 1, 0, 0)) (q := (7, [l0, l1], (.int (1) :: stk), h)) (by decide +kernel) rfl rfl
theorem s28_7 {sc : Scr} {l0 l1 : Value} {x z : Int32} {stk : List Value} {h : AHp} {post : Option Value → AHp → Prop} : Ev sc 28 7 [l0, l1] (.int z :: .int x :: stk) h post = Ev sc 28 8 [l0, l1] (.int (x - z) :: stk) h post := e_1 (e := (7, .isub, 0, 0)) (q := (8, [l0, l1], (.int (x - z) :: stk), h)) (by decide +kernel) rfl rfl
theorem s28_8 {sc : Scr} {l0 l1 : Value} {a0 : Int32} {a1 : Int32} {a2 : Int32}  {h : AHp} {post : Option Value → AHp → Prop} : Ev sc 28 8 [l0, l1] [.int a0, .int a1, .int a2] h post = Call 85 [.int a2, .int a1, .int a0] h (fun rv h2 => Ev sc 28 11 [l0, l1] (rv.toList ++ []) h2 post) := e_s (i := 67) (z := 85) (r2 := 1) (as := [.int a2, .int a1, .int a0]) (rest := []) (by decide +kernel) rfl rfl rfl (Nat.le_of_ble_eq_true rfl) rfl
theorem s28_11 {sc : Scr} {l0 l1 : Value} {x : Int32} {h : AHp} {post : Option Value → AHp → Prop} : Ev sc 28 11 [l0, l1] [.int x] h post = ((x = 0 ∨ x = 1) ∧ post (some (.int x)) h) := e_retb (r1 := 0) (r2 := 0) (by decide +kernel) rfl
-- 29 X3_hasRetired (I)Z
theorem s29_e {a0 : Nat} {a1 : Int32} {h : AHp} {post : Option Value → AHp → Prop} : Call 29 [.ref a0, .int a1] h post = Ev none 29 0 [.ref a0, .int a1] [] h post := rfl
theorem s29_0 {sc : Scr} {l1 : Value} {x : Nat} {stk : List Value} {h : AHp} {post : Option Value → AHp → Prop} : Ev sc 29 0 [.ref x, l1] stk h post = Ev sc 29 1 [.ref x, l1] (.ref x :: stk) h post := e_1 (e := (0, .aload_n 0, 0, 0)) (q := (1, [.ref x, l1], (.ref x :: stk), h)) (by decide +kernel) rfl rfl
theorem s29_1 {sc : Scr} {l0 l1 : Value} {x : Nat} {stk : List Value} {h : AHp} {post : Option Value → AHp → Prop} : Ev sc 29 1 [l0, l1] (.ref x :: stk) h post = oB (fldv h x 3 3) (fun v => Ev sc 29 4 [l0, l1] (v :: stk) h post) := e_get (i := 25) (r1 := 3) (r2 := 3) (by decide +kernel)
theorem s29_4 {sc : Scr} {l0 : Value} {x : Int32} {stk : List Value} {h : AHp} {post : Option Value → AHp → Prop} : Ev sc 29 4 [l0, .int x] stk h post = Ev sc 29 5 [l0, .int x] (.int x :: stk) h post := e_1 (e := (4, .iload_n 1, 0, 0)) (q := (5, [l0, .int x], (.int x :: stk), h)) (by decide +kernel) rfl rfl
theorem s29_5 {sc : Scr} {l0 l1 : Value} {x : Nat} {j : Int32} {stk : List Value} {h : AHp} {post : Option Value → AHp → Prop} : Ev sc 29 5 [l0, l1] (.int j :: .ref x :: stk) h post = oB (ldi h x j) (fun v => Ev sc 29 6 [l0, l1] (.int v :: stk) h post) := e_ldi (r1 := 0) (r2 := 0) (by decide +kernel)
theorem s29_6 {sc : Scr} {l0 l1 : Value}  {stk : List Value} {h : AHp} {post : Option Value → AHp → Prop} : Ev sc 29 6 [l0, l1] stk h post = Ev sc 29 7 [l0, l1] (.int (-1) :: stk) h post := e_1 (e := (6, .iconst (-1), 0, 0)) (q := (7, [l0, l1], (.int (-1) :: stk), h)) (by decide +kernel) rfl rfl
theorem s29_7 {sc : Scr} {l0 l1 : Value} {x z : Int32} {stk : List Value} {h : AHp} {post : Option Value → AHp → Prop} : Ev sc 29 7 [l0, l1] (.int z :: .int x :: stk) h post = (if x = z then Ev sc 29 14 [l0, l1] stk h post else Ev sc 29 10 [l0, l1] stk h post) := e_icmp_eq (o := 7) (r1 := 0) (r2 := 0) 14 (by decide +kernel) rfl
theorem s29_10 {sc : Scr} {l0 l1 : Value}  {stk : List Value} {h : AHp} {post : Option Value → AHp → Prop} : Ev sc 29 10 [l0, l1] stk h post = Ev sc 29 11 [l0, l1] (.int (1) :: stk) h post := e_1 (e := (10, .iconst 1, 0, 0)) (q := (11, [l0, l1], (.int (1) :: stk), h)) (by decide +kernel) rfl rfl
theorem s29_11 {sc : Scr} {l0 l1 : Value}  {stk : List Value} {h : AHp} {post : Option Value → AHp → Prop} : Ev sc 29 11 [l0, l1] stk h post = Ev sc 29 15 [l0, l1] stk h post := e_1 (e := (11, .goto 4, 0, 0)) (q := (15, [l0, l1], stk, h)) (by decide +kernel) rfl rfl
theorem s29_14 {sc : Scr} {l0 l1 : Value}  {stk : List Value} {h : AHp} {post : Option Value → AHp → Prop} : Ev sc 29 14 [l0, l1] stk h post = Ev sc 29 15 [l0, l1] (.int (0) :: stk) h post := e_1 (e := (14, .iconst 0, 0, 0)) (q := (15, [l0, l1], (.int (0) :: stk), h)) (by decide +kernel) rfl rfl
theorem s29_15 {sc : Scr} {l0 l1 : Value} {x : Int32} {h : AHp} {post : Option Value → AHp → Prop} : Ev sc 29 15 [l0, l1] [.int x] h post = ((x = 0 ∨ x = 1) ∧ post (some (.int x)) h) := e_retb (r1 := 0) (r2 := 0) (by decide +kernel) rfl
-- 30 X3_countViews ()I
theorem s30_e {a0 : Nat} {h : AHp} {post : Option Value → AHp → Prop} : Call 30 [.ref a0] h post = Ev none 30 0 [.ref a0] [] h post := rfl
theorem s30_0 {sc : Scr} {x : Nat} {stk : List Value} {h : AHp} {post : Option Value → AHp → Prop} : Ev sc 30 0 [.ref x] stk h post = Ev sc 30 1 [.ref x] (.ref x :: stk) h post := e_1 (e := (0, .aload_n 0, 0, 0)) (q := (1, [.ref x], (.ref x :: stk), h)) (by decide +kernel) rfl rfl
theorem s30_1 {sc : Scr} {l0 : Value} {x : Nat} {stk : List Value} {h : AHp} {post : Option Value → AHp → Prop} : Ev sc 30 1 [l0] (.ref x :: stk) h post = oB (fldv h x 3 1) (fun v => Ev sc 30 4 [l0] (v :: stk) h post) := e_get (i := 17) (r1 := 3) (r2 := 1) (by decide +kernel)
theorem s30_4 {sc : Scr} {l0 : Value} {a0 : Int32}  {h : AHp} {post : Option Value → AHp → Prop} : Ev sc 30 4 [l0] [.int a0] h post = Call 153 [.int a0] h (fun rv h2 => Ev sc 30 7 [l0] (rv.toList ++ []) h2 post) := e_s (i := 71) (z := 153) (r2 := 0) (as := [.int a0]) (rest := []) (by decide +kernel) rfl rfl rfl (Nat.le_of_ble_eq_true rfl) rfl
theorem s30_7 {sc : Scr} {l0 : Value} {x : Int32} {h : AHp} {post : Option Value → AHp → Prop} : Ev sc 30 7 [l0] [.int x] h post = post (some (.int x)) h := e_r (e := (7, .ireturn, 0, 0)) (by decide +kernel) rfl rfl
-- 31 X3_countActiveWriters ()I
theorem s31_e {a0 : Nat} {h : AHp} {post : Option Value → AHp → Prop} : Call 31 [.ref a0] h post = Ev none 31 0 [.ref a0, .long 0, .long 0] [] h post := rfl
theorem s31_0 {sc : Scr} {l0 l1 l2 : Value}  {stk : List Value} {h : AHp} {post : Option Value → AHp → Prop} : Ev sc 31 0 [l0, l1, l2] stk h post = Ev sc 31 1 [l0, l1, l2] (.int (0) :: stk) h post := e_1 (e := (0, .iconst 0, 0, 0)) (q := (1, [l0, l1, l2], (.int (0) :: stk), h)) (by decide +kernel) rfl rfl
theorem s31_1 {sc : Scr} {l0 l1 l2 : Value} {x : Int32} {stk : List Value} {h : AHp} {post : Option Value → AHp → Prop} : Ev sc 31 1 [l0, l1, l2] (.int x :: stk) h post = Ev sc 31 2 [l0, .int x, l2] stk h post := e_1 (e := (1, .istore_n 1, 0, 0)) (q := (2, [l0, .int x, l2], stk, h)) (by decide +kernel) rfl rfl
theorem s31_2 {sc : Scr} {l0 l1 l2 : Value}  {stk : List Value} {h : AHp} {post : Option Value → AHp → Prop} : Ev sc 31 2 [l0, l1, l2] stk h post = Ev sc 31 3 [l0, l1, l2] (.int (0) :: stk) h post := e_1 (e := (2, .iconst 0, 0, 0)) (q := (3, [l0, l1, l2], (.int (0) :: stk), h)) (by decide +kernel) rfl rfl
theorem s31_3 {sc : Scr} {l0 l1 l2 : Value} {x : Int32} {stk : List Value} {h : AHp} {post : Option Value → AHp → Prop} : Ev sc 31 3 [l0, l1, l2] (.int x :: stk) h post = Ev sc 31 4 [l0, l1, .int x] stk h post := e_1 (e := (3, .istore_n 2, 0, 0)) (q := (4, [l0, l1, .int x], stk, h)) (by decide +kernel) rfl rfl
theorem s31_4 {sc : Scr} {l0 l1 : Value} {x : Int32} {stk : List Value} {h : AHp} {post : Option Value → AHp → Prop} : Ev sc 31 4 [l0, l1, .int x] stk h post = Ev sc 31 5 [l0, l1, .int x] (.int x :: stk) h post := e_1 (e := (4, .iload_n 2, 0, 0)) (q := (5, [l0, l1, .int x], (.int x :: stk), h)) (by decide +kernel) rfl rfl
theorem s31_5 {sc : Scr} {l1 l2 : Value} {x : Nat} {stk : List Value} {h : AHp} {post : Option Value → AHp → Prop} : Ev sc 31 5 [.ref x, l1, l2] stk h post = Ev sc 31 6 [.ref x, l1, l2] (.ref x :: stk) h post := e_1 (e := (5, .aload_n 0, 0, 0)) (q := (6, [.ref x, l1, l2], (.ref x :: stk), h)) (by decide +kernel) rfl rfl
theorem s31_6 {sc : Scr} {l0 l1 l2 : Value} {x : Nat} {stk : List Value} {h : AHp} {post : Option Value → AHp → Prop} : Ev sc 31 6 [l0, l1, l2] (.ref x :: stk) h post = oB (fldv h x 3 4) (fun v => Ev sc 31 9 [l0, l1, l2] (v :: stk) h post) := e_get (i := 28) (r1 := 3) (r2 := 4) (by decide +kernel)
theorem s31_9 {sc : Scr} {l0 l1 l2 : Value} {x z : Int32} {stk : List Value} {h : AHp} {post : Option Value → AHp → Prop} : Ev sc 31 9 [l0, l1, l2] (.int z :: .int x :: stk) h post = (if z ≤ x then Ev sc 31 29 [l0, l1, l2] stk h post else Ev sc 31 12 [l0, l1, l2] stk h post) := e_icmp_ge (o := 20) (r1 := 0) (r2 := 0) 29 (by decide +kernel) rfl
theorem s31_12 {sc : Scr} {l1 l2 : Value} {x : Nat} {stk : List Value} {h : AHp} {post : Option Value → AHp → Prop} : Ev sc 31 12 [.ref x, l1, l2] stk h post = Ev sc 31 13 [.ref x, l1, l2] (.ref x :: stk) h post := e_1 (e := (12, .aload_n 0, 0, 0)) (q := (13, [.ref x, l1, l2], (.ref x :: stk), h)) (by decide +kernel) rfl rfl
theorem s31_13 {sc : Scr} {l0 l1 : Value} {x : Int32} {stk : List Value} {h : AHp} {post : Option Value → AHp → Prop} : Ev sc 31 13 [l0, l1, .int x] stk h post = Ev sc 31 14 [l0, l1, .int x] (.int x :: stk) h post := e_1 (e := (13, .iload_n 2, 0, 0)) (q := (14, [l0, l1, .int x], (.int x :: stk), h)) (by decide +kernel) rfl rfl
theorem s31_14 {sc : Scr} {l0 l1 l2 : Value} {a0 : Int32}  {x : Nat} {h : AHp} {post : Option Value → AHp → Prop} (ho : isO h x 3) : Ev sc 31 14 [l0, l1, l2] [.int a0, .ref x] h post = Call 29 [.ref x, .int a0] h (fun rv h2 => Ev sc 31 17 [l0, l1, l2] (rv.toList ++ []) h2 post) := e_v (i := 77) (z := 29) (r2 := 0) (as := [.int a0]) (rest := []) (by decide +kernel) rfl rfl (Nat.le_of_ble_eq_true rfl) rfl ho
theorem s31_17 {sc : Scr} {l0 l1 l2 : Value} {x : Int32} {stk : List Value} {h : AHp} {post : Option Value → AHp → Prop} : Ev sc 31 17 [l0, l1, l2] (.int x :: stk) h post = (if ¬ x = 0 then Ev sc 31 23 [l0, l1, l2] stk h post else Ev sc 31 20 [l0, l1, l2] stk h post) := e_if_ne (o := 6) (r1 := 0) (r2 := 0) 23 (by decide +kernel) rfl
theorem s31_20 {sc : Scr} {l0 l2 : Value} {x : Int32} {stk : List Value} {h : AHp} {post : Option Value → AHp → Prop} : Ev sc 31 20 [l0, .int x, l2] stk h post = Ev sc 31 23 [l0, .int (x + 1), l2] stk h post := e_1 (e := (20, .iinc 1 1, 0, 0)) (q := (23, [l0, .int (x + 1), l2], stk, h)) (by decide +kernel) rfl rfl
theorem s31_23 {sc : Scr} {l0 l1 : Value} {x : Int32} {stk : List Value} {h : AHp} {post : Option Value → AHp → Prop} : Ev sc 31 23 [l0, l1, .int x] stk h post = Ev sc 31 26 [l0, l1, .int (x + 1)] stk h post := e_1 (e := (23, .iinc 2 1, 0, 0)) (q := (26, [l0, l1, .int (x + 1)], stk, h)) (by decide +kernel) rfl rfl
theorem s31_26 {sc : Scr} {l0 l1 l2 : Value}  {stk : List Value} {h : AHp} {post : Option Value → AHp → Prop} : Ev sc 31 26 [l0, l1, l2] stk h post = Ev sc 31 4 [l0, l1, l2] stk h post := e_1 (e := (26, .goto (-22), 0, 0)) (q := (4, [l0, l1, l2], stk, h)) (by decide +kernel) rfl rfl
theorem s31_29 {sc : Scr} {l0 l2 : Value} {x : Int32} {stk : List Value} {h : AHp} {post : Option Value → AHp → Prop} : Ev sc 31 29 [l0, .int x, l2] stk h post = Ev sc 31 30 [l0, .int x, l2] (.int x :: stk) h post := e_1 (e := (29, .iload_n 1, 0, 0)) (q := (30, [l0, .int x, l2], (.int x :: stk), h)) (by decide +kernel) rfl rfl
theorem s31_30 {sc : Scr} {l0 l1 l2 : Value} {x : Int32} {h : AHp} {post : Option Value → AHp → Prop} : Ev sc 31 30 [l0, l1, l2] [.int x] h post = post (some (.int x)) h := e_r (e := (30, .ireturn, 0, 0)) (by decide +kernel) rfl rfl
-- 32 X3_homeOf (I)LPartedSums$Knowledge;
theorem s32_e {a0 : Nat} {a1 : Int32} {h : AHp} {post : Option Value → AHp → Prop} : Call 32 [.ref a0, .int a1] h post = Ev none 32 0 [.ref a0, .int a1] [] h post := rfl
theorem s32_0 {sc : Scr} {l1 : Value} {x : Nat} {stk : List Value} {h : AHp} {post : Option Value → AHp → Prop} : Ev sc 32 0 [.ref x, l1] stk h post = Ev sc 32 1 [.ref x, l1] (.ref x :: stk) h post := e_1 (e := (0, .aload_n 0, 0, 0)) (q := (1, [.ref x, l1], (.ref x :: stk), h)) (by decide +kernel) rfl rfl
theorem s32_1 {sc : Scr} {l0 l1 : Value} {x : Nat} {stk : List Value} {h : AHp} {post : Option Value → AHp → Prop} : Ev sc 32 1 [l0, l1] (.ref x :: stk) h post = oB (fldv h x 3 0) (fun v => Ev sc 32 4 [l0, l1] (v :: stk) h post) := e_get (i := 11) (r1 := 3) (r2 := 0) (by decide +kernel)
theorem s32_4 {sc : Scr} {l1 : Value} {x : Nat} {stk : List Value} {h : AHp} {post : Option Value → AHp → Prop} : Ev sc 32 4 [.ref x, l1] stk h post = Ev sc 32 5 [.ref x, l1] (.ref x :: stk) h post := e_1 (e := (4, .aload_n 0, 0, 0)) (q := (5, [.ref x, l1], (.ref x :: stk), h)) (by decide +kernel) rfl rfl
theorem s32_5 {sc : Scr} {l0 l1 : Value} {x : Nat} {stk : List Value} {h : AHp} {post : Option Value → AHp → Prop} : Ev sc 32 5 [l0, l1] (.ref x :: stk) h post = oB (fldv h x 3 2) (fun v => Ev sc 32 8 [l0, l1] (v :: stk) h post) := e_get (i := 21) (r1 := 3) (r2 := 2) (by decide +kernel)
theorem s32_8 {sc : Scr} {l0 : Value} {x : Int32} {stk : List Value} {h : AHp} {post : Option Value → AHp → Prop} : Ev sc 32 8 [l0, .int x] stk h post = Ev sc 32 9 [l0, .int x] (.int x :: stk) h post := e_1 (e := (8, .iload_n 1, 0, 0)) (q := (9, [l0, .int x], (.int x :: stk), h)) (by decide +kernel) rfl rfl
theorem s32_9 {sc : Scr} {l0 l1 : Value} {x : Nat} {j : Int32} {stk : List Value} {h : AHp} {post : Option Value → AHp → Prop} : Ev sc 32 9 [l0, l1] (.int j :: .ref x :: stk) h post = oB (ldi h x j) (fun v => Ev sc 32 10 [l0, l1] (.int v :: stk) h post) := e_ldi (r1 := 0) (r2 := 0) (by decide +kernel)
theorem s32_10 {sc : Scr} {l0 l1 : Value} {x : Nat} {j : Int32} {stk : List Value} {h : AHp} {post : Option Value → AHp → Prop} : Ev sc 32 10 [l0, l1] (.int j :: .ref x :: stk) h post = oB (ldq h x j) (fun v => Ev sc 32 11 [l0, l1] (v :: stk) h post) := e_ldq (r1 := 0) (r2 := 0) (by decide +kernel)
theorem s32_11 {sc : Scr} {l0 l1 : Value} {x : Nat} {h : AHp} {post : Option Value → AHp → Prop} : Ev sc 32 11 [l0, l1] [.ref x] h post = post (some (.ref x)) h := e_r (e := (11, .areturn, 0, 0)) (by decide +kernel) rfl rfl
-- 33 X3_homeVersion (I)I
theorem s33_e {a0 : Nat} {a1 : Int32} {h : AHp} {post : Option Value → AHp → Prop} : Call 33 [.ref a0, .int a1] h post = Ev none 33 0 [.ref a0, .int a1] [] h post := rfl
theorem s33_0 {sc : Scr} {l1 : Value} {x : Nat} {stk : List Value} {h : AHp} {post : Option Value → AHp → Prop} : Ev sc 33 0 [.ref x, l1] stk h post = Ev sc 33 1 [.ref x, l1] (.ref x :: stk) h post := e_1 (e := (0, .aload_n 0, 0, 0)) (q := (1, [.ref x, l1], (.ref x :: stk), h)) (by decide +kernel) rfl rfl
theorem s33_1 {sc : Scr} {l0 : Value} {x : Int32} {stk : List Value} {h : AHp} {post : Option Value → AHp → Prop} : Ev sc 33 1 [l0, .int x] stk h post = Ev sc 33 2 [l0, .int x] (.int x :: stk) h post := e_1 (e := (1, .iload_n 1, 0, 0)) (q := (2, [l0, .int x], (.int x :: stk), h)) (by decide +kernel) rfl rfl
theorem s33_2 {sc : Scr} {l0 l1 : Value} {a0 : Int32}  {x : Nat} {h : AHp} {post : Option Value → AHp → Prop} (ho : isO h x 3) : Ev sc 33 2 [l0, l1] [.int a0, .ref x] h post = Call 32 [.ref x, .int a0] h (fun rv h2 => Ev sc 33 5 [l0, l1] (rv.toList ++ []) h2 post) := e_v (i := 81) (z := 32) (r2 := 0) (as := [.int a0]) (rest := []) (by decide +kernel) rfl rfl (Nat.le_of_ble_eq_true rfl) rfl ho
theorem s33_5 {sc : Scr} {l0 l1 : Value} {x : Nat} {stk : List Value} {h : AHp} {post : Option Value → AHp → Prop} : Ev sc 33 5 [l0, l1] (.ref x :: stk) h post = oB (fldv h x 0 0) (fun v => Ev sc 33 8 [l0, l1] (v :: stk) h post) := e_get (i := 85) (r1 := 0) (r2 := 0) (by decide +kernel)
theorem s33_8 {sc : Scr} {l0 : Value} {x : Int32} {stk : List Value} {h : AHp} {post : Option Value → AHp → Prop} : Ev sc 33 8 [l0, .int x] stk h post = Ev sc 33 9 [l0, .int x] (.int x :: stk) h post := e_1 (e := (8, .iload_n 1, 0, 0)) (q := (9, [l0, .int x], (.int x :: stk), h)) (by decide +kernel) rfl rfl
theorem s33_9 {sc : Scr} {l0 l1 : Value} {x : Nat} {j : Int32} {stk : List Value} {h : AHp} {post : Option Value → AHp → Prop} : Ev sc 33 9 [l0, l1] (.int j :: .ref x :: stk) h post = oB (ldi h x j) (fun v => Ev sc 33 10 [l0, l1] (.int v :: stk) h post) := e_ldi (r1 := 0) (r2 := 0) (by decide +kernel)
theorem s33_10 {sc : Scr} {l0 l1 : Value} {x : Int32} {h : AHp} {post : Option Value → AHp → Prop} : Ev sc 33 10 [l0, l1] [.int x] h post = post (some (.int x)) h := e_r (e := (10, .ireturn, 0, 0)) (by decide +kernel) rfl rfl
-- 34 X3_writersAtHome (I)I
theorem s34_e {a0 : Nat} {a1 : Int32} {h : AHp} {post : Option Value → AHp → Prop} : Call 34 [.ref a0, .int a1] h post = Ev none 34 0 [.ref a0, .int a1, .long 0, .long 0] [] h post := rfl
theorem s34_0 {sc : Scr} {l0 l1 l2 l3 : Value}  {stk : List Value} {h : AHp} {post : Option Value → AHp → Prop} : Ev sc 34 0 [l0, l1, l2, l3] stk h post = Ev sc 34 1 [l0, l1, l2, l3] (.int (0) :: stk) h post := e_1 (e := (0, .iconst 0, 0, 0)) (q := (1, [l0, l1, l2, l3], (.int (0) :: stk), h)) (by decide +kernel) rfl rfl
theorem s34_1 {sc : Scr} {l0 l1 l2 l3 : Value} {x : Int32} {stk : List Value} {h : AHp} {post : Option Value → AHp → Prop} : Ev sc 34 1 [l0, l1, l2, l3] (.int x :: stk) h post = Ev sc 34 2 [l0, l1, .int x, l3] stk h post := e_1 (e := (1, .istore_n 2, 0, 0)) (q := (2, [l0, l1, .int x, l3], stk, h)) (by decide +kernel) rfl rfl
theorem s34_2 {sc : Scr} {l0 l1 l2 l3 : Value}  {stk : List Value} {h : AHp} {post : Option Value → AHp → Prop} : Ev sc 34 2 [l0, l1, l2, l3] stk h post = Ev sc 34 3 [l0, l1, l2, l3] (.int (0) :: stk) h post := e_1 (e := (2, .iconst 0, 0, 0)) (q := (3, [l0, l1, l2, l3], (.int (0) :: stk), h)) (by decide +kernel) rfl rfl
theorem s34_3 {sc : Scr} {l0 l1 l2 l3 : Value} {x : Int32} {stk : List Value} {h : AHp} {post : Option Value → AHp → Prop} : Ev sc 34 3 [l0, l1, l2, l3] (.int x :: stk) h post = Ev sc 34 4 [l0, l1, l2, .int x] stk h post := e_1 (e := (3, .istore_n 3, 0, 0)) (q := (4, [l0, l1, l2, .int x], stk, h)) (by decide +kernel) rfl rfl
theorem s34_4 {sc : Scr} {l0 l1 l2 : Value} {x : Int32} {stk : List Value} {h : AHp} {post : Option Value → AHp → Prop} : Ev sc 34 4 [l0, l1, l2, .int x] stk h post = Ev sc 34 5 [l0, l1, l2, .int x] (.int x :: stk) h post := e_1 (e := (4, .iload_n 3, 0, 0)) (q := (5, [l0, l1, l2, .int x], (.int x :: stk), h)) (by decide +kernel) rfl rfl
theorem s34_5 {sc : Scr} {l1 l2 l3 : Value} {x : Nat} {stk : List Value} {h : AHp} {post : Option Value → AHp → Prop} : Ev sc 34 5 [.ref x, l1, l2, l3] stk h post = Ev sc 34 6 [.ref x, l1, l2, l3] (.ref x :: stk) h post := e_1 (e := (5, .aload_n 0, 0, 0)) (q := (6, [.ref x, l1, l2, l3], (.ref x :: stk), h)) (by decide +kernel) rfl rfl
theorem s34_6 {sc : Scr} {l0 l1 l2 l3 : Value} {x : Nat} {stk : List Value} {h : AHp} {post : Option Value → AHp → Prop} : Ev sc 34 6 [l0, l1, l2, l3] (.ref x :: stk) h post = oB (fldv h x 3 4) (fun v => Ev sc 34 9 [l0, l1, l2, l3] (v :: stk) h post) := e_get (i := 28) (r1 := 3) (r2 := 4) (by decide +kernel)
theorem s34_9 {sc : Scr} {l0 l1 l2 l3 : Value} {x z : Int32} {stk : List Value} {h : AHp} {post : Option Value → AHp → Prop} : Ev sc 34 9 [l0, l1, l2, l3] (.int z :: .int x :: stk) h post = (if z ≤ x then Ev sc 34 42 [l0, l1, l2, l3] stk h post else Ev sc 34 12 [l0, l1, l2, l3] stk h post) := e_icmp_ge (o := 33) (r1 := 0) (r2 := 0) 42 (by decide +kernel) rfl
theorem s34_12 {sc : Scr} {l1 l2 l3 : Value} {x : Nat} {stk : List Value} {h : AHp} {post : Option Value → AHp → Prop} : Ev sc 34 12 [.ref x, l1, l2, l3] stk h post = Ev sc 34 13 [.ref x, l1, l2, l3] (.ref x :: stk) h post := e_1 (e := (12, .aload_n 0, 0, 0)) (q := (13, [.ref x, l1, l2, l3], (.ref x :: stk), h)) (by decide +kernel) rfl rfl
theorem s34_13 {sc : Scr} {l0 l1 l2 l3 : Value} {x : Nat} {stk : List Value} {h : AHp} {post : Option Value → AHp → Prop} : Ev sc 34 13 [l0, l1, l2, l3] (.ref x :: stk) h post = oB (fldv h x 3 2) (fun v => Ev sc 34 16 [l0, l1, l2, l3] (v :: stk) h post) := e_get (i := 21) (r1 := 3) (r2 := 2) (by decide +kernel)
theorem s34_16 {sc : Scr} {l0 l1 l2 : Value} {x : Int32} {stk : List Value} {h : AHp} {post : Option Value → AHp → Prop} : Ev sc 34 16 [l0, l1, l2, .int x] stk h post = Ev sc 34 17 [l0, l1, l2, .int x] (.int x :: stk) h post := e_1 (e := (16, .iload_n 3, 0, 0)) (q := (17, [l0, l1, l2, .int x], (.int x :: stk), h)) (by decide +kernel) rfl rfl
theorem s34_17 {sc : Scr} {l0 l1 l2 l3 : Value} {x : Nat} {j : Int32} {stk : List Value} {h : AHp} {post : Option Value → AHp → Prop} : Ev sc 34 17 [l0, l1, l2, l3] (.int j :: .ref x :: stk) h post = oB (ldi h x j) (fun v => Ev sc 34 18 [l0, l1, l2, l3] (.int v :: stk) h post) := e_ldi (r1 := 0) (r2 := 0) (by decide +kernel)
theorem s34_18 {sc : Scr} {l0 l2 l3 : Value} {x : Int32} {stk : List Value} {h : AHp} {post : Option Value → AHp → Prop} : Ev sc 34 18 [l0, .int x, l2, l3] stk h post = Ev sc 34 19 [l0, .int x, l2, l3] (.int x :: stk) h post := e_1 (e := (18, .iload_n 1, 0, 0)) (q := (19, [l0, .int x, l2, l3], (.int x :: stk), h)) (by decide +kernel) rfl rfl
theorem s34_19 {sc : Scr} {l0 l1 l2 l3 : Value} {x z : Int32} {stk : List Value} {h : AHp} {post : Option Value → AHp → Prop} : Ev sc 34 19 [l0, l1, l2, l3] (.int z :: .int x :: stk) h post = (if ¬ x = z then Ev sc 34 36 [l0, l1, l2, l3] stk h post else Ev sc 34 22 [l0, l1, l2, l3] stk h post) := e_icmp_ne (o := 17) (r1 := 0) (r2 := 0) 36 (by decide +kernel) rfl
theorem s34_22 {sc : Scr} {l1 l2 l3 : Value} {x : Nat} {stk : List Value} {h : AHp} {post : Option Value → AHp → Prop} : Ev sc 34 22 [.ref x, l1, l2, l3] stk h post = Ev sc 34 23 [.ref x, l1, l2, l3] (.ref x :: stk) h post := e_1 (e := (22, .aload_n 0, 0, 0)) (q := (23, [.ref x, l1, l2, l3], (.ref x :: stk), h)) (by decide +kernel) rfl rfl
theorem s34_23 {sc : Scr} {l0 l1 l2 : Value} {x : Int32} {stk : List Value} {h : AHp} {post : Option Value → AHp → Prop} : Ev sc 34 23 [l0, l1, l2, .int x] stk h post = Ev sc 34 24 [l0, l1, l2, .int x] (.int x :: stk) h post := e_1 (e := (23, .iload_n 3, 0, 0)) (q := (24, [l0, l1, l2, .int x], (.int x :: stk), h)) (by decide +kernel) rfl rfl
theorem s34_24 {sc : Scr} {l0 l1 l2 l3 : Value} {a0 : Int32}  {x : Nat} {h : AHp} {post : Option Value → AHp → Prop} (ho : isO h x 3) : Ev sc 34 24 [l0, l1, l2, l3] [.int a0, .ref x] h post = Call 29 [.ref x, .int a0] h (fun rv h2 => Ev sc 34 27 [l0, l1, l2, l3] (rv.toList ++ []) h2 post) := e_v (i := 77) (z := 29) (r2 := 0) (as := [.int a0]) (rest := []) (by decide +kernel) rfl rfl (Nat.le_of_ble_eq_true rfl) rfl ho
theorem s34_27 {sc : Scr} {l0 l1 l2 l3 : Value} {x : Int32} {stk : List Value} {h : AHp} {post : Option Value → AHp → Prop} : Ev sc 34 27 [l0, l1, l2, l3] (.int x :: stk) h post = (if ¬ x = 0 then Ev sc 34 36 [l0, l1, l2, l3] stk h post else Ev sc 34 30 [l0, l1, l2, l3] stk h post) := e_if_ne (o := 9) (r1 := 0) (r2 := 0) 36 (by decide +kernel) rfl
theorem s34_30 {sc : Scr} {l0 l1 l3 : Value} {x : Int32} {stk : List Value} {h : AHp} {post : Option Value → AHp → Prop} : Ev sc 34 30 [l0, l1, .int x, l3] stk h post = Ev sc 34 31 [l0, l1, .int x, l3] (.int x :: stk) h post := e_1 (e := (30, .iload_n 2, 0, 0)) (q := (31, [l0, l1, .int x, l3], (.int x :: stk), h)) (by decide +kernel) rfl rfl
theorem s34_31 {sc : Scr} {l0 l1 l2 l3 : Value}  {stk : List Value} {h : AHp} {post : Option Value → AHp → Prop} : Ev sc 34 31 [l0, l1, l2, l3] stk h post = Ev sc 34 32 [l0, l1, l2, l3] (.int (1) :: stk) h post := e_1 (e := (31, .iconst 1, 0, 0)) (q := (32, [l0, l1, l2, l3], (.int (1) :: stk), h)) (by decide +kernel) rfl rfl
theorem s34_32 {sc : Scr} {l0 l1 l2 : Value} {x : Int32} {stk : List Value} {h : AHp} {post : Option Value → AHp → Prop} : Ev sc 34 32 [l0, l1, l2, .int x] stk h post = Ev sc 34 33 [l0, l1, l2, .int x] (.int x :: stk) h post := e_1 (e := (32, .iload_n 3, 0, 0)) (q := (33, [l0, l1, l2, .int x], (.int x :: stk), h)) (by decide +kernel) rfl rfl
theorem s34_33 {sc : Scr} {l0 l1 l2 l3 : Value} {x z : Int32} {stk : List Value} {h : AHp} {post : Option Value → AHp → Prop} : Ev sc 34 33 [l0, l1, l2, l3] (.int z :: .int x :: stk) h post = Ev sc 34 34 [l0, l1, l2, l3] (.int (x <<< (z &&& 31)) :: stk) h post := e_1 (e := (33, .ishl, 0, 0)) (q := (34, [l0, l1, l2, l3], (.int (x <<< (z &&& 31)) :: stk), h)) (by decide +kernel) rfl rfl
theorem s34_34 {sc : Scr} {l0 l1 l2 l3 : Value} {x z : Int32} {stk : List Value} {h : AHp} {post : Option Value → AHp → Prop} : Ev sc 34 34 [l0, l1, l2, l3] (.int z :: .int x :: stk) h post = Ev sc 34 35 [l0, l1, l2, l3] (.int (x ||| z) :: stk) h post := e_1 (e := (34, .ior, 0, 0)) (q := (35, [l0, l1, l2, l3], (.int (x ||| z) :: stk), h)) (by decide +kernel) rfl rfl
theorem s34_35 {sc : Scr} {l0 l1 l2 l3 : Value} {x : Int32} {stk : List Value} {h : AHp} {post : Option Value → AHp → Prop} : Ev sc 34 35 [l0, l1, l2, l3] (.int x :: stk) h post = Ev sc 34 36 [l0, l1, .int x, l3] stk h post := e_1 (e := (35, .istore_n 2, 0, 0)) (q := (36, [l0, l1, .int x, l3], stk, h)) (by decide +kernel) rfl rfl
theorem s34_36 {sc : Scr} {l0 l1 l2 : Value} {x : Int32} {stk : List Value} {h : AHp} {post : Option Value → AHp → Prop} : Ev sc 34 36 [l0, l1, l2, .int x] stk h post = Ev sc 34 39 [l0, l1, l2, .int (x + 1)] stk h post := e_1 (e := (36, .iinc 3 1, 0, 0)) (q := (39, [l0, l1, l2, .int (x + 1)], stk, h)) (by decide +kernel) rfl rfl
theorem s34_39 {sc : Scr} {l0 l1 l2 l3 : Value}  {stk : List Value} {h : AHp} {post : Option Value → AHp → Prop} : Ev sc 34 39 [l0, l1, l2, l3] stk h post = Ev sc 34 4 [l0, l1, l2, l3] stk h post := e_1 (e := (39, .goto (-35), 0, 0)) (q := (4, [l0, l1, l2, l3], stk, h)) (by decide +kernel) rfl rfl
theorem s34_42 {sc : Scr} {l0 l1 l3 : Value} {x : Int32} {stk : List Value} {h : AHp} {post : Option Value → AHp → Prop} : Ev sc 34 42 [l0, l1, .int x, l3] stk h post = Ev sc 34 43 [l0, l1, .int x, l3] (.int x :: stk) h post := e_1 (e := (42, .iload_n 2, 0, 0)) (q := (43, [l0, l1, .int x, l3], (.int x :: stk), h)) (by decide +kernel) rfl rfl
theorem s34_43 {sc : Scr} {l0 l1 l2 l3 : Value} {x : Int32} {h : AHp} {post : Option Value → AHp → Prop} : Ev sc 34 43 [l0, l1, l2, l3] [.int x] h post = post (some (.int x)) h := e_r (e := (43, .ireturn, 0, 0)) (by decide +kernel) rfl rfl
-- 35 X3_viewsThatKnowTheSame (I)I
theorem s35_e {a0 : Nat} {a1 : Int32} {h : AHp} {post : Option Value → AHp → Prop} : Call 35 [.ref a0, .int a1] h post = Ev none 35 0 [.ref a0, .int a1, .long 0, .long 0] [] h post := rfl
theorem s35_0 {sc : Scr} {l0 l1 l2 l3 : Value}  {stk : List Value} {h : AHp} {post : Option Value → AHp → Prop} : Ev sc 35 0 [l0, l1, l2, l3] stk h post = Ev sc 35 1 [l0, l1, l2, l3] (.int (0) :: stk) h post := e_1 (e := (0, .iconst 0, 0, 0)) (q := (1, [l0, l1, l2, l3], (.int (0) :: stk), h)) (by decide +kernel) rfl rfl
theorem s35_1 {sc : Scr} {l0 l1 l2 l3 : Value} {x : Int32} {stk : List Value} {h : AHp} {post : Option Value → AHp → Prop} : Ev sc 35 1 [l0, l1, l2, l3] (.int x :: stk) h post = Ev sc 35 2 [l0, l1, .int x, l3] stk h post := e_1 (e := (1, .istore_n 2, 0, 0)) (q := (2, [l0, l1, .int x, l3], stk, h)) (by decide +kernel) rfl rfl
theorem s35_2 {sc : Scr} {l0 l1 l2 l3 : Value}  {stk : List Value} {h : AHp} {post : Option Value → AHp → Prop} : Ev sc 35 2 [l0, l1, l2, l3] stk h post = Ev sc 35 3 [l0, l1, l2, l3] (.int (0) :: stk) h post := e_1 (e := (2, .iconst 0, 0, 0)) (q := (3, [l0, l1, l2, l3], (.int (0) :: stk), h)) (by decide +kernel) rfl rfl
theorem s35_3 {sc : Scr} {l0 l1 l2 l3 : Value} {x : Int32} {stk : List Value} {h : AHp} {post : Option Value → AHp → Prop} : Ev sc 35 3 [l0, l1, l2, l3] (.int x :: stk) h post = Ev sc 35 4 [l0, l1, l2, .int x] stk h post := e_1 (e := (3, .istore_n 3, 0, 0)) (q := (4, [l0, l1, l2, .int x], stk, h)) (by decide +kernel) rfl rfl
theorem s35_4 {sc : Scr} {l0 l1 l2 : Value} {x : Int32} {stk : List Value} {h : AHp} {post : Option Value → AHp → Prop} : Ev sc 35 4 [l0, l1, l2, .int x] stk h post = Ev sc 35 5 [l0, l1, l2, .int x] (.int x :: stk) h post := e_1 (e := (4, .iload_n 3, 0, 0)) (q := (5, [l0, l1, l2, .int x], (.int x :: stk), h)) (by decide +kernel) rfl rfl
theorem s35_5 {sc : Scr} {l0 l1 l2 l3 : Value}  {stk : List Value} {h : AHp} {post : Option Value → AHp → Prop} : Ev sc 35 5 [l0, l1, l2, l3] stk h post = Ev sc 35 7 [l0, l1, l2, l3] (.int (6) :: stk) h post := e_1 (e := (5, .bipush 6, 0, 0)) (q := (7, [l0, l1, l2, l3], (.int (6) :: stk), h)) (by decide +kernel) rfl rfl
theorem s35_7 {sc : Scr} {l0 l1 l2 l3 : Value} {x z : Int32} {stk : List Value} {h : AHp} {post : Option Value → AHp → Prop} : Ev sc 35 7 [l0, l1, l2, l3] (.int z :: .int x :: stk) h post = (if z ≤ x then Ev sc 35 48 [l0, l1, l2, l3] stk h post else Ev sc 35 10 [l0, l1, l2, l3] stk h post) := e_icmp_ge (o := 41) (r1 := 0) (r2 := 0) 48 (by decide +kernel) rfl
theorem s35_10 {sc : Scr} {l1 l2 l3 : Value} {x : Nat} {stk : List Value} {h : AHp} {post : Option Value → AHp → Prop} : Ev sc 35 10 [.ref x, l1, l2, l3] stk h post = Ev sc 35 11 [.ref x, l1, l2, l3] (.ref x :: stk) h post := e_1 (e := (10, .aload_n 0, 0, 0)) (q := (11, [.ref x, l1, l2, l3], (.ref x :: stk), h)) (by decide +kernel) rfl rfl
theorem s35_11 {sc : Scr} {l0 l1 l2 : Value} {x : Int32} {stk : List Value} {h : AHp} {post : Option Value → AHp → Prop} : Ev sc 35 11 [l0, l1, l2, .int x] stk h post = Ev sc 35 12 [l0, l1, l2, .int x] (.int x :: stk) h post := e_1 (e := (11, .iload_n 3, 0, 0)) (q := (12, [l0, l1, l2, .int x], (.int x :: stk), h)) (by decide +kernel) rfl rfl
theorem s35_12 {sc : Scr} {l0 l1 l2 l3 : Value} {a0 : Int32}  {x : Nat} {h : AHp} {post : Option Value → AHp → Prop} (ho : isO h x 3) : Ev sc 35 12 [l0, l1, l2, l3] [.int a0, .ref x] h post = Call 27 [.ref x, .int a0] h (fun rv h2 => Ev sc 35 15 [l0, l1, l2, l3] (rv.toList ++ []) h2 post) := e_v (i := 88) (z := 27) (r2 := 0) (as := [.int a0]) (rest := []) (by decide +kernel) rfl rfl (Nat.le_of_ble_eq_true rfl) rfl ho
theorem s35_15 {sc : Scr} {l0 l1 l2 l3 : Value} {x : Int32} {stk : List Value} {h : AHp} {post : Option Value → AHp → Prop} : Ev sc 35 15 [l0, l1, l2, l3] (.int x :: stk) h post = (if x = 0 then Ev sc 35 42 [l0, l1, l2, l3] stk h post else Ev sc 35 18 [l0, l1, l2, l3] stk h post) := e_if_eq (o := 27) (r1 := 0) (r2 := 0) 42 (by decide +kernel) rfl
theorem s35_18 {sc : Scr} {l1 l2 l3 : Value} {x : Nat} {stk : List Value} {h : AHp} {post : Option Value → AHp → Prop} : Ev sc 35 18 [.ref x, l1, l2, l3] stk h post = Ev sc 35 19 [.ref x, l1, l2, l3] (.ref x :: stk) h post := e_1 (e := (18, .aload_n 0, 0, 0)) (q := (19, [.ref x, l1, l2, l3], (.ref x :: stk), h)) (by decide +kernel) rfl rfl
theorem s35_19 {sc : Scr} {l0 l1 l2 l3 : Value} {x : Nat} {stk : List Value} {h : AHp} {post : Option Value → AHp → Prop} : Ev sc 35 19 [l0, l1, l2, l3] (.ref x :: stk) h post = oB (fldv h x 3 0) (fun v => Ev sc 35 22 [l0, l1, l2, l3] (v :: stk) h post) := e_get (i := 11) (r1 := 3) (r2 := 0) (by decide +kernel)
theorem s35_22 {sc : Scr} {l0 l1 l2 : Value} {x : Int32} {stk : List Value} {h : AHp} {post : Option Value → AHp → Prop} : Ev sc 35 22 [l0, l1, l2, .int x] stk h post = Ev sc 35 23 [l0, l1, l2, .int x] (.int x :: stk) h post := e_1 (e := (22, .iload_n 3, 0, 0)) (q := (23, [l0, l1, l2, .int x], (.int x :: stk), h)) (by decide +kernel) rfl rfl
theorem s35_23 {sc : Scr} {l0 l1 l2 l3 : Value} {x : Nat} {j : Int32} {stk : List Value} {h : AHp} {post : Option Value → AHp → Prop} : Ev sc 35 23 [l0, l1, l2, l3] (.int j :: .ref x :: stk) h post = oB (ldq h x j) (fun v => Ev sc 35 24 [l0, l1, l2, l3] (v :: stk) h post) := e_ldq (r1 := 0) (r2 := 0) (by decide +kernel)
theorem s35_24 {sc : Scr} {l1 l2 l3 : Value} {x : Nat} {stk : List Value} {h : AHp} {post : Option Value → AHp → Prop} : Ev sc 35 24 [.ref x, l1, l2, l3] stk h post = Ev sc 35 25 [.ref x, l1, l2, l3] (.ref x :: stk) h post := e_1 (e := (24, .aload_n 0, 0, 0)) (q := (25, [.ref x, l1, l2, l3], (.ref x :: stk), h)) (by decide +kernel) rfl rfl
theorem s35_25 {sc : Scr} {l0 l1 l2 l3 : Value} {x : Nat} {stk : List Value} {h : AHp} {post : Option Value → AHp → Prop} : Ev sc 35 25 [l0, l1, l2, l3] (.ref x :: stk) h post = oB (fldv h x 3 0) (fun v => Ev sc 35 28 [l0, l1, l2, l3] (v :: stk) h post) := e_get (i := 11) (r1 := 3) (r2 := 0) (by decide +kernel)
theorem s35_28 {sc : Scr} {l0 l2 l3 : Value} {x : Int32} {stk : List Value} {h : AHp} {post : Option Value → AHp → Prop} : Ev sc 35 28 [l0, .int x, l2, l3] stk h post = Ev sc 35 29 [l0, .int x, l2, l3] (.int x :: stk) h post := e_1 (e := (28, .iload_n 1, 0, 0)) (q := (29, [l0, .int x, l2, l3], (.int x :: stk), h)) (by decide +kernel) rfl rfl
theorem s35_29 {sc : Scr} {l0 l1 l2 l3 : Value} {x : Nat} {j : Int32} {stk : List Value} {h : AHp} {post : Option Value → AHp → Prop} : Ev sc 35 29 [l0, l1, l2, l3] (.int j :: .ref x :: stk) h post = oB (ldq h x j) (fun v => Ev sc 35 30 [l0, l1, l2, l3] (v :: stk) h post) := e_ldq (r1 := 0) (r2 := 0) (by decide +kernel)
theorem s35_30 {sc : Scr} {l0 l1 l2 l3 : Value} {a0 : Nat}  {x : Nat} {h : AHp} {post : Option Value → AHp → Prop} (ho : isO h x 0) : Ev sc 35 30 [l0, l1, l2, l3] [.ref a0, .ref x] h post = Call 9 [.ref x, .ref a0] h (fun rv h2 => Ev sc 35 33 [l0, l1, l2, l3] (rv.toList ++ []) h2 post) := e_v (i := 91) (z := 9) (r2 := 0) (as := [.ref a0]) (rest := []) (by decide +kernel) rfl rfl (Nat.le_of_ble_eq_true rfl) rfl ho
theorem s35_33 {sc : Scr} {l0 l1 l2 l3 : Value} {x : Int32} {stk : List Value} {h : AHp} {post : Option Value → AHp → Prop} : Ev sc 35 33 [l0, l1, l2, l3] (.int x :: stk) h post = (if x = 0 then Ev sc 35 42 [l0, l1, l2, l3] stk h post else Ev sc 35 36 [l0, l1, l2, l3] stk h post) := e_if_eq (o := 9) (r1 := 0) (r2 := 0) 42 (by decide +kernel) rfl
theorem s35_36 {sc : Scr} {l0 l1 l3 : Value} {x : Int32} {stk : List Value} {h : AHp} {post : Option Value → AHp → Prop} : Ev sc 35 36 [l0, l1, .int x, l3] stk h post = Ev sc 35 37 [l0, l1, .int x, l3] (.int x :: stk) h post := e_1 (e := (36, .iload_n 2, 0, 0)) (q := (37, [l0, l1, .int x, l3], (.int x :: stk), h)) (by decide +kernel) rfl rfl
theorem s35_37 {sc : Scr} {l0 l1 l2 l3 : Value}  {stk : List Value} {h : AHp} {post : Option Value → AHp → Prop} : Ev sc 35 37 [l0, l1, l2, l3] stk h post = Ev sc 35 38 [l0, l1, l2, l3] (.int (1) :: stk) h post := e_1 (e := (37, .iconst 1, 0, 0)) (q := (38, [l0, l1, l2, l3], (.int (1) :: stk), h)) (by decide +kernel) rfl rfl
theorem s35_38 {sc : Scr} {l0 l1 l2 : Value} {x : Int32} {stk : List Value} {h : AHp} {post : Option Value → AHp → Prop} : Ev sc 35 38 [l0, l1, l2, .int x] stk h post = Ev sc 35 39 [l0, l1, l2, .int x] (.int x :: stk) h post := e_1 (e := (38, .iload_n 3, 0, 0)) (q := (39, [l0, l1, l2, .int x], (.int x :: stk), h)) (by decide +kernel) rfl rfl
theorem s35_39 {sc : Scr} {l0 l1 l2 l3 : Value} {x z : Int32} {stk : List Value} {h : AHp} {post : Option Value → AHp → Prop} : Ev sc 35 39 [l0, l1, l2, l3] (.int z :: .int x :: stk) h post = Ev sc 35 40 [l0, l1, l2, l3] (.int (x <<< (z &&& 31)) :: stk) h post := e_1 (e := (39, .ishl, 0, 0)) (q := (40, [l0, l1, l2, l3], (.int (x <<< (z &&& 31)) :: stk), h)) (by decide +kernel) rfl rfl
theorem s35_40 {sc : Scr} {l0 l1 l2 l3 : Value} {x z : Int32} {stk : List Value} {h : AHp} {post : Option Value → AHp → Prop} : Ev sc 35 40 [l0, l1, l2, l3] (.int z :: .int x :: stk) h post = Ev sc 35 41 [l0, l1, l2, l3] (.int (x ||| z) :: stk) h post := e_1 (e := (40, .ior, 0, 0)) (q := (41, [l0, l1, l2, l3], (.int (x ||| z) :: stk), h)) (by decide +kernel) rfl rfl
theorem s35_41 {sc : Scr} {l0 l1 l2 l3 : Value} {x : Int32} {stk : List Value} {h : AHp} {post : Option Value → AHp → Prop} : Ev sc 35 41 [l0, l1, l2, l3] (.int x :: stk) h post = Ev sc 35 42 [l0, l1, .int x, l3] stk h post := e_1 (e := (41, .istore_n 2, 0, 0)) (q := (42, [l0, l1, .int x, l3], stk, h)) (by decide +kernel) rfl rfl
theorem s35_42 {sc : Scr} {l0 l1 l2 : Value} {x : Int32} {stk : List Value} {h : AHp} {post : Option Value → AHp → Prop} : Ev sc 35 42 [l0, l1, l2, .int x] stk h post = Ev sc 35 45 [l0, l1, l2, .int (x + 1)] stk h post := e_1 (e := (42, .iinc 3 1, 0, 0)) (q := (45, [l0, l1, l2, .int (x + 1)], stk, h)) (by decide +kernel) rfl rfl
theorem s35_45 {sc : Scr} {l0 l1 l2 l3 : Value}  {stk : List Value} {h : AHp} {post : Option Value → AHp → Prop} : Ev sc 35 45 [l0, l1, l2, l3] stk h post = Ev sc 35 4 [l0, l1, l2, l3] stk h post := e_1 (e := (45, .goto (-41), 0, 0)) (q := (4, [l0, l1, l2, l3], stk, h)) (by decide +kernel) rfl rfl
theorem s35_48 {sc : Scr} {l0 l1 l3 : Value} {x : Int32} {stk : List Value} {h : AHp} {post : Option Value → AHp → Prop} : Ev sc 35 48 [l0, l1, .int x, l3] stk h post = Ev sc 35 49 [l0, l1, .int x, l3] (.int x :: stk) h post := e_1 (e := (48, .iload_n 2, 0, 0)) (q := (49, [l0, l1, .int x, l3], (.int x :: stk), h)) (by decide +kernel) rfl rfl
theorem s35_49 {sc : Scr} {l0 l1 l2 l3 : Value} {x : Int32} {h : AHp} {post : Option Value → AHp → Prop} : Ev sc 35 49 [l0, l1, l2, l3] [.int x] h post = post (some (.int x)) h := e_r (e := (49, .ireturn, 0, 0)) (by decide +kernel) rfl rfl
-- 36 X3_viewsUpToDate (I)I
theorem s36_e {a0 : Nat} {a1 : Int32} {h : AHp} {post : Option Value → AHp → Prop} : Call 36 [.ref a0, .int a1] h post = Ev none 36 0 [.ref a0, .int a1, .long 0, .long 0] [] h post := rfl
theorem s36_0 {sc : Scr} {l0 l1 l2 l3 : Value}  {stk : List Value} {h : AHp} {post : Option Value → AHp → Prop} : Ev sc 36 0 [l0, l1, l2, l3] stk h post = Ev sc 36 1 [l0, l1, l2, l3] (.int (0) :: stk) h post := e_1 (e := (0, .iconst 0, 0, 0)) (q := (1, [l0, l1, l2, l3], (.int (0) :: stk), h)) (by decide +kernel) rfl rfl
theorem s36_1 {sc : Scr} {l0 l1 l2 l3 : Value} {x : Int32} {stk : List Value} {h : AHp} {post : Option Value → AHp → Prop} : Ev sc 36 1 [l0, l1, l2, l3] (.int x :: stk) h post = Ev sc 36 2 [l0, l1, .int x, l3] stk h post := e_1 (e := (1, .istore_n 2, 0, 0)) (q := (2, [l0, l1, .int x, l3], stk, h)) (by decide +kernel) rfl rfl
theorem s36_2 {sc : Scr} {l0 l1 l2 l3 : Value}  {stk : List Value} {h : AHp} {post : Option Value → AHp → Prop} : Ev sc 36 2 [l0, l1, l2, l3] stk h post = Ev sc 36 3 [l0, l1, l2, l3] (.int (0) :: stk) h post := e_1 (e := (2, .iconst 0, 0, 0)) (q := (3, [l0, l1, l2, l3], (.int (0) :: stk), h)) (by decide +kernel) rfl rfl
theorem s36_3 {sc : Scr} {l0 l1 l2 l3 : Value} {x : Int32} {stk : List Value} {h : AHp} {post : Option Value → AHp → Prop} : Ev sc 36 3 [l0, l1, l2, l3] (.int x :: stk) h post = Ev sc 36 4 [l0, l1, l2, .int x] stk h post := e_1 (e := (3, .istore_n 3, 0, 0)) (q := (4, [l0, l1, l2, .int x], stk, h)) (by decide +kernel) rfl rfl
theorem s36_4 {sc : Scr} {l0 l1 l2 : Value} {x : Int32} {stk : List Value} {h : AHp} {post : Option Value → AHp → Prop} : Ev sc 36 4 [l0, l1, l2, .int x] stk h post = Ev sc 36 5 [l0, l1, l2, .int x] (.int x :: stk) h post := e_1 (e := (4, .iload_n 3, 0, 0)) (q := (5, [l0, l1, l2, .int x], (.int x :: stk), h)) (by decide +kernel) rfl rfl
theorem s36_5 {sc : Scr} {l0 l1 l2 l3 : Value}  {stk : List Value} {h : AHp} {post : Option Value → AHp → Prop} : Ev sc 36 5 [l0, l1, l2, l3] stk h post = Ev sc 36 7 [l0, l1, l2, l3] (.int (6) :: stk) h post := e_1 (e := (5, .bipush 6, 0, 0)) (q := (7, [l0, l1, l2, l3], (.int (6) :: stk), h)) (by decide +kernel) rfl rfl
theorem s36_7 {sc : Scr} {l0 l1 l2 l3 : Value} {x z : Int32} {stk : List Value} {h : AHp} {post : Option Value → AHp → Prop} : Ev sc 36 7 [l0, l1, l2, l3] (.int z :: .int x :: stk) h post = (if z ≤ x then Ev sc 36 49 [l0, l1, l2, l3] stk h post else Ev sc 36 10 [l0, l1, l2, l3] stk h post) := e_icmp_ge (o := 42) (r1 := 0) (r2 := 0) 49 (by decide +kernel) rfl
theorem s36_10 {sc : Scr} {l1 l2 l3 : Value} {x : Nat} {stk : List Value} {h : AHp} {post : Option Value → AHp → Prop} : Ev sc 36 10 [.ref x, l1, l2, l3] stk h post = Ev sc 36 11 [.ref x, l1, l2, l3] (.ref x :: stk) h post := e_1 (e := (10, .aload_n 0, 0, 0)) (q := (11, [.ref x, l1, l2, l3], (.ref x :: stk), h)) (by decide +kernel) rfl rfl
theorem s36_11 {sc : Scr} {l0 l1 l2 : Value} {x : Int32} {stk : List Value} {h : AHp} {post : Option Value → AHp → Prop} : Ev sc 36 11 [l0, l1, l2, .int x] stk h post = Ev sc 36 12 [l0, l1, l2, .int x] (.int x :: stk) h post := e_1 (e := (11, .iload_n 3, 0, 0)) (q := (12, [l0, l1, l2, .int x], (.int x :: stk), h)) (by decide +kernel) rfl rfl
theorem s36_12 {sc : Scr} {l0 l1 l2 l3 : Value} {a0 : Int32}  {x : Nat} {h : AHp} {post : Option Value → AHp → Prop} (ho : isO h x 3) : Ev sc 36 12 [l0, l1, l2, l3] [.int a0, .ref x] h post = Call 27 [.ref x, .int a0] h (fun rv h2 => Ev sc 36 15 [l0, l1, l2, l3] (rv.toList ++ []) h2 post) := e_v (i := 88) (z := 27) (r2 := 0) (as := [.int a0]) (rest := []) (by decide +kernel) rfl rfl (Nat.le_of_ble_eq_true rfl) rfl ho
theorem s36_15 {sc : Scr} {l0 l1 l2 l3 : Value} {x : Int32} {stk : List Value} {h : AHp} {post : Option Value → AHp → Prop} : Ev sc 36 15 [l0, l1, l2, l3] (.int x :: stk) h post = (if x = 0 then Ev sc 36 43 [l0, l1, l2, l3] stk h post else Ev sc 36 18 [l0, l1, l2, l3] stk h post) := e_if_eq (o := 28) (r1 := 0) (r2 := 0) 43 (by decide +kernel) rfl
theorem s36_18 {sc : Scr} {l1 l2 l3 : Value} {x : Nat} {stk : List Value} {h : AHp} {post : Option Value → AHp → Prop} : Ev sc 36 18 [.ref x, l1, l2, l3] stk h post = Ev sc 36 19 [.ref x, l1, l2, l3] (.ref x :: stk) h post := e_1 (e := (18, .aload_n 0, 0, 0)) (q := (19, [.ref x, l1, l2, l3], (.ref x :: stk), h)) (by decide +kernel) rfl rfl
theorem s36_19 {sc : Scr} {l0 l1 l2 l3 : Value} {x : Nat} {stk : List Value} {h : AHp} {post : Option Value → AHp → Prop} : Ev sc 36 19 [l0, l1, l2, l3] (.ref x :: stk) h post = oB (fldv h x 3 0) (fun v => Ev sc 36 22 [l0, l1, l2, l3] (v :: stk) h post) := e_get (i := 11) (r1 := 3) (r2 := 0) (by decide +kernel)
theorem s36_22 {sc : Scr} {l0 l1 l2 : Value} {x : Int32} {stk : List Value} {h : AHp} {post : Option Value → AHp → Prop} : Ev sc 36 22 [l0, l1, l2, .int x] stk h post = Ev sc 36 23 [l0, l1, l2, .int x] (.int x :: stk) h post := e_1 (e := (22, .iload_n 3, 0, 0)) (q := (23, [l0, l1, l2, .int x], (.int x :: stk), h)) (by decide +kernel) rfl rfl
theorem s36_23 {sc : Scr} {l0 l1 l2 l3 : Value} {x : Nat} {j : Int32} {stk : List Value} {h : AHp} {post : Option Value → AHp → Prop} : Ev sc 36 23 [l0, l1, l2, l3] (.int j :: .ref x :: stk) h post = oB (ldq h x j) (fun v => Ev sc 36 24 [l0, l1, l2, l3] (v :: stk) h post) := e_ldq (r1 := 0) (r2 := 0) (by decide +kernel)
theorem s36_24 {sc : Scr} {l0 l1 l2 l3 : Value} {x : Nat} {stk : List Value} {h : AHp} {post : Option Value → AHp → Prop} : Ev sc 36 24 [l0, l1, l2, l3] (.ref x :: stk) h post = oB (fldv h x 0 0) (fun v => Ev sc 36 27 [l0, l1, l2, l3] (v :: stk) h post) := e_get (i := 85) (r1 := 0) (r2 := 0) (by decide +kernel)
theorem s36_27 {sc : Scr} {l0 l2 l3 : Value} {x : Int32} {stk : List Value} {h : AHp} {post : Option Value → AHp → Prop} : Ev sc 36 27 [l0, .int x, l2, l3] stk h post = Ev sc 36 28 [l0, .int x, l2, l3] (.int x :: stk) h post := e_1 (e := (27, .iload_n 1, 0, 0)) (q := (28, [l0, .int x, l2, l3], (.int x :: stk), h)) (by decide +kernel) rfl rfl
theorem s36_28 {sc : Scr} {l0 l1 l2 l3 : Value} {x : Nat} {j : Int32} {stk : List Value} {h : AHp} {post : Option Value → AHp → Prop} : Ev sc 36 28 [l0, l1, l2, l3] (.int j :: .ref x :: stk) h post = oB (ldi h x j) (fun v => Ev sc 36 29 [l0, l1, l2, l3] (.int v :: stk) h post) := e_ldi (r1 := 0) (r2 := 0) (by decide +kernel)
theorem s36_29 {sc : Scr} {l1 l2 l3 : Value} {x : Nat} {stk : List Value} {h : AHp} {post : Option Value → AHp → Prop} : Ev sc 36 29 [.ref x, l1, l2, l3] stk h post = Ev sc 36 30 [.ref x, l1, l2, l3] (.ref x :: stk) h post := e_1 (e := (29, .aload_n 0, 0, 0)) (q := (30, [.ref x, l1, l2, l3], (.ref x :: stk), h)) (by decide +kernel) rfl rfl
theorem s36_30 {sc : Scr} {l0 l2 l3 : Value} {x : Int32} {stk : List Value} {h : AHp} {post : Option Value → AHp → Prop} : Ev sc 36 30 [l0, .int x, l2, l3] stk h post = Ev sc 36 31 [l0, .int x, l2, l3] (.int x :: stk) h post := e_1 (e := (30, .iload_n 1, 0, 0)) (q := (31, [l0, .int x, l2, l3], (.int x :: stk), h)) (by decide +kernel) rfl rfl
theorem s36_31 {sc : Scr} {l0 l1 l2 l3 : Value} {a0 : Int32} {y0 : Int32} {x : Nat} {h : AHp} {post : Option Value → AHp → Prop} (ho : isO h x 3) : Ev sc 36 31 [l0, l1, l2, l3] [.int a0, .ref x, .int y0] h post = Call 33 [.ref x, .int a0] h (fun rv h2 => Ev sc 36 34 [l0, l1, l2, l3] (rv.toList ++ [.int y0]) h2 post) := e_v (i := 95) (z := 33) (r2 := 0) (as := [.int a0]) (rest := [.int y0]) (by decide +kernel) rfl rfl (Nat.le_of_ble_eq_true rfl) rfl ho
theorem s36_34 {sc : Scr} {l0 l1 l2 l3 : Value} {x z : Int32} {stk : List Value} {h : AHp} {post : Option Value → AHp → Prop} : Ev sc 36 34 [l0, l1, l2, l3] (.int z :: .int x :: stk) h post = (if ¬ x = z then Ev sc 36 43 [l0, l1, l2, l3] stk h post else Ev sc 36 37 [l0, l1, l2, l3] stk h post) := e_icmp_ne (o := 9) (r1 := 0) (r2 := 0) 43 (by decide +kernel) rfl
theorem s36_37 {sc : Scr} {l0 l1 l3 : Value} {x : Int32} {stk : List Value} {h : AHp} {post : Option Value → AHp → Prop} : Ev sc 36 37 [l0, l1, .int x, l3] stk h post = Ev sc 36 38 [l0, l1, .int x, l3] (.int x :: stk) h post := e_1 (e := (37, .iload_n 2, 0, 0)) (q := (38, [l0, l1, .int x, l3], (.int x :: stk), h)) (by decide +kernel) rfl rfl
theorem s36_38 {sc : Scr} {l0 l1 l2 l3 : Value}  {stk : List Value} {h : AHp} {post : Option Value → AHp → Prop} : Ev sc 36 38 [l0, l1, l2, l3] stk h post = Ev sc 36 39 [l0, l1, l2, l3] (.int (1) :: stk) h post := e_1 (e := (38, .iconst 1, 0, 0)) (q := (39, [l0, l1, l2, l3], (.int (1) :: stk), h)) (by decide +kernel) rfl rfl
theorem s36_39 {sc : Scr} {l0 l1 l2 : Value} {x : Int32} {stk : List Value} {h : AHp} {post : Option Value → AHp → Prop} : Ev sc 36 39 [l0, l1, l2, .int x] stk h post = Ev sc 36 40 [l0, l1, l2, .int x] (.int x :: stk) h post := e_1 (e := (39, .iload_n 3, 0, 0)) (q := (40, [l0, l1, l2, .int x], (.int x :: stk), h)) (by decide +kernel) rfl rfl
theorem s36_40 {sc : Scr} {l0 l1 l2 l3 : Value} {x z : Int32} {stk : List Value} {h : AHp} {post : Option Value → AHp → Prop} : Ev sc 36 40 [l0, l1, l2, l3] (.int z :: .int x :: stk) h post = Ev sc 36 41 [l0, l1, l2, l3] (.int (x <<< (z &&& 31)) :: stk) h post := e_1 (e := (40, .ishl, 0, 0)) (q := (41, [l0, l1, l2, l3], (.int (x <<< (z &&& 31)) :: stk), h)) (by decide +kernel) rfl rfl
theorem s36_41 {sc : Scr} {l0 l1 l2 l3 : Value} {x z : Int32} {stk : List Value} {h : AHp} {post : Option Value → AHp → Prop} : Ev sc 36 41 [l0, l1, l2, l3] (.int z :: .int x :: stk) h post = Ev sc 36 42 [l0, l1, l2, l3] (.int (x ||| z) :: stk) h post := e_1 (e := (41, .ior, 0, 0)) (q := (42, [l0, l1, l2, l3], (.int (x ||| z) :: stk), h)) (by decide +kernel) rfl rfl
theorem s36_42 {sc : Scr} {l0 l1 l2 l3 : Value} {x : Int32} {stk : List Value} {h : AHp} {post : Option Value → AHp → Prop} : Ev sc 36 42 [l0, l1, l2, l3] (.int x :: stk) h post = Ev sc 36 43 [l0, l1, .int x, l3] stk h post := e_1 (e := (42, .istore_n 2, 0, 0)) (q := (43, [l0, l1, .int x, l3], stk, h)) (by decide +kernel) rfl rfl
theorem s36_43 {sc : Scr} {l0 l1 l2 : Value} {x : Int32} {stk : List Value} {h : AHp} {post : Option Value → AHp → Prop} : Ev sc 36 43 [l0, l1, l2, .int x] stk h post = Ev sc 36 46 [l0, l1, l2, .int (x + 1)] stk h post := e_1 (e := (43, .iinc 3 1, 0, 0)) (q := (46, [l0, l1, l2, .int (x + 1)], stk, h)) (by decide +kernel) rfl rfl
theorem s36_46 {sc : Scr} {l0 l1 l2 l3 : Value}  {stk : List Value} {h : AHp} {post : Option Value → AHp → Prop} : Ev sc 36 46 [l0, l1, l2, l3] stk h post = Ev sc 36 4 [l0, l1, l2, l3] stk h post := e_1 (e := (46, .goto (-42), 0, 0)) (q := (4, [l0, l1, l2, l3], stk, h)) (by decide +kernel) rfl rfl
theorem s36_49 {sc : Scr} {l0 l1 l3 : Value} {x : Int32} {stk : List Value} {h : AHp} {post : Option Value → AHp → Prop} : Ev sc 36 49 [l0, l1, .int x, l3] stk h post = Ev sc 36 50 [l0, l1, .int x, l3] (.int x :: stk) h post := e_1 (e := (49, .iload_n 2, 0, 0)) (q := (50, [l0, l1, .int x, l3], (.int x :: stk), h)) (by decide +kernel) rfl rfl
theorem s36_50 {sc : Scr} {l0 l1 l2 l3 : Value} {x : Int32} {h : AHp} {post : Option Value → AHp → Prop} : Ev sc 36 50 [l0, l1, l2, l3] [.int x] h post = post (some (.int x)) h := e_r (e := (50, .ireturn, 0, 0)) (by decide +kernel) rfl rfl
-- 37 X3_viewsWithGrave (I)I
theorem s37_e {a0 : Nat} {a1 : Int32} {h : AHp} {post : Option Value → AHp → Prop} : Call 37 [.ref a0, .int a1] h post = Ev none 37 0 [.ref a0, .int a1, .long 0, .long 0] [] h post := rfl
theorem s37_0 {sc : Scr} {l0 l1 l2 l3 : Value}  {stk : List Value} {h : AHp} {post : Option Value → AHp → Prop} : Ev sc 37 0 [l0, l1, l2, l3] stk h post = Ev sc 37 1 [l0, l1, l2, l3] (.int (0) :: stk) h post := e_1 (e := (0, .iconst 0, 0, 0)) (q := (1, [l0, l1, l2, l3], (.int (0) :: stk), h)) (by decide +kernel) rfl rfl
theorem s37_1 {sc : Scr} {l0 l1 l2 l3 : Value} {x : Int32} {stk : List Value} {h : AHp} {post : Option Value → AHp → Prop} : Ev sc 37 1 [l0, l1, l2, l3] (.int x :: stk) h post = Ev sc 37 2 [l0, l1, .int x, l3] stk h post := e_1 (e := (1, .istore_n 2, 0, 0)) (q := (2, [l0, l1, .int x, l3], stk, h)) (by decide +kernel) rfl rfl
theorem s37_2 {sc : Scr} {l0 l1 l2 l3 : Value}  {stk : List Value} {h : AHp} {post : Option Value → AHp → Prop} : Ev sc 37 2 [l0, l1, l2, l3] stk h post = Ev sc 37 3 [l0, l1, l2, l3] (.int (0) :: stk) h post := e_1 (e := (2, .iconst 0, 0, 0)) (q := (3, [l0, l1, l2, l3], (.int (0) :: stk), h)) (by decide +kernel) rfl rfl
theorem s37_3 {sc : Scr} {l0 l1 l2 l3 : Value} {x : Int32} {stk : List Value} {h : AHp} {post : Option Value → AHp → Prop} : Ev sc 37 3 [l0, l1, l2, l3] (.int x :: stk) h post = Ev sc 37 4 [l0, l1, l2, .int x] stk h post := e_1 (e := (3, .istore_n 3, 0, 0)) (q := (4, [l0, l1, l2, .int x], stk, h)) (by decide +kernel) rfl rfl
theorem s37_4 {sc : Scr} {l0 l1 l2 : Value} {x : Int32} {stk : List Value} {h : AHp} {post : Option Value → AHp → Prop} : Ev sc 37 4 [l0, l1, l2, .int x] stk h post = Ev sc 37 5 [l0, l1, l2, .int x] (.int x :: stk) h post := e_1 (e := (4, .iload_n 3, 0, 0)) (q := (5, [l0, l1, l2, .int x], (.int x :: stk), h)) (by decide +kernel) rfl rfl
theorem s37_5 {sc : Scr} {l0 l1 l2 l3 : Value}  {stk : List Value} {h : AHp} {post : Option Value → AHp → Prop} : Ev sc 37 5 [l0, l1, l2, l3] stk h post = Ev sc 37 7 [l0, l1, l2, l3] (.int (6) :: stk) h post := e_1 (e := (5, .bipush 6, 0, 0)) (q := (7, [l0, l1, l2, l3], (.int (6) :: stk), h)) (by decide +kernel) rfl rfl
theorem s37_7 {sc : Scr} {l0 l1 l2 l3 : Value} {x z : Int32} {stk : List Value} {h : AHp} {post : Option Value → AHp → Prop} : Ev sc 37 7 [l0, l1, l2, l3] (.int z :: .int x :: stk) h post = (if z ≤ x then Ev sc 37 43 [l0, l1, l2, l3] stk h post else Ev sc 37 10 [l0, l1, l2, l3] stk h post) := e_icmp_ge (o := 36) (r1 := 0) (r2 := 0) 43 (by decide +kernel) rfl
theorem s37_10 {sc : Scr} {l1 l2 l3 : Value} {x : Nat} {stk : List Value} {h : AHp} {post : Option Value → AHp → Prop} : Ev sc 37 10 [.ref x, l1, l2, l3] stk h post = Ev sc 37 11 [.ref x, l1, l2, l3] (.ref x :: stk) h post := e_1 (e := (10, .aload_n 0, 0, 0)) (q := (11, [.ref x, l1, l2, l3], (.ref x :: stk), h)) (by decide +kernel) rfl rfl
theorem s37_11 {sc : Scr} {l0 l1 l2 : Value} {x : Int32} {stk : List Value} {h : AHp} {post : Option Value → AHp → Prop} : Ev sc 37 11 [l0, l1, l2, .int x] stk h post = Ev sc 37 12 [l0, l1, l2, .int x] (.int x :: stk) h post := e_1 (e := (11, .iload_n 3, 0, 0)) (q := (12, [l0, l1, l2, .int x], (.int x :: stk), h)) (by decide +kernel) rfl rfl
theorem s37_12 {sc : Scr} {l0 l1 l2 l3 : Value} {a0 : Int32}  {x : Nat} {h : AHp} {post : Option Value → AHp → Prop} (ho : isO h x 3) : Ev sc 37 12 [l0, l1, l2, l3] [.int a0, .ref x] h post = Call 27 [.ref x, .int a0] h (fun rv h2 => Ev sc 37 15 [l0, l1, l2, l3] (rv.toList ++ []) h2 post) := e_v (i := 88) (z := 27) (r2 := 0) (as := [.int a0]) (rest := []) (by decide +kernel) rfl rfl (Nat.le_of_ble_eq_true rfl) rfl ho
theorem s37_15 {sc : Scr} {l0 l1 l2 l3 : Value} {x : Int32} {stk : List Value} {h : AHp} {post : Option Value → AHp → Prop} : Ev sc 37 15 [l0, l1, l2, l3] (.int x :: stk) h post = (if x = 0 then Ev sc 37 37 [l0, l1, l2, l3] stk h post else Ev sc 37 18 [l0, l1, l2, l3] stk h post) := e_if_eq (o := 22) (r1 := 0) (r2 := 0) 37 (by decide +kernel) rfl
theorem s37_18 {sc : Scr} {l1 l2 l3 : Value} {x : Nat} {stk : List Value} {h : AHp} {post : Option Value → AHp → Prop} : Ev sc 37 18 [.ref x, l1, l2, l3] stk h post = Ev sc 37 19 [.ref x, l1, l2, l3] (.ref x :: stk) h post := e_1 (e := (18, .aload_n 0, 0, 0)) (q := (19, [.ref x, l1, l2, l3], (.ref x :: stk), h)) (by decide +kernel) rfl rfl
theorem s37_19 {sc : Scr} {l0 l1 l2 l3 : Value} {x : Nat} {stk : List Value} {h : AHp} {post : Option Value → AHp → Prop} : Ev sc 37 19 [l0, l1, l2, l3] (.ref x :: stk) h post = oB (fldv h x 3 0) (fun v => Ev sc 37 22 [l0, l1, l2, l3] (v :: stk) h post) := e_get (i := 11) (r1 := 3) (r2 := 0) (by decide +kernel)
theorem s37_22 {sc : Scr} {l0 l1 l2 : Value} {x : Int32} {stk : List Value} {h : AHp} {post : Option Value → AHp → Prop} : Ev sc 37 22 [l0, l1, l2, .int x] stk h post = Ev sc 37 23 [l0, l1, l2, .int x] (.int x :: stk) h post := e_1 (e := (22, .iload_n 3, 0, 0)) (q := (23, [l0, l1, l2, .int x], (.int x :: stk), h)) (by decide +kernel) rfl rfl
theorem s37_23 {sc : Scr} {l0 l1 l2 l3 : Value} {x : Nat} {j : Int32} {stk : List Value} {h : AHp} {post : Option Value → AHp → Prop} : Ev sc 37 23 [l0, l1, l2, l3] (.int j :: .ref x :: stk) h post = oB (ldq h x j) (fun v => Ev sc 37 24 [l0, l1, l2, l3] (v :: stk) h post) := e_ldq (r1 := 0) (r2 := 0) (by decide +kernel)
theorem s37_24 {sc : Scr} {l0 l2 l3 : Value} {x : Int32} {stk : List Value} {h : AHp} {post : Option Value → AHp → Prop} : Ev sc 37 24 [l0, .int x, l2, l3] stk h post = Ev sc 37 25 [l0, .int x, l2, l3] (.int x :: stk) h post := e_1 (e := (24, .iload_n 1, 0, 0)) (q := (25, [l0, .int x, l2, l3], (.int x :: stk), h)) (by decide +kernel) rfl rfl
theorem s37_25 {sc : Scr} {l0 l1 l2 l3 : Value} {a0 : Int32}  {x : Nat} {h : AHp} {post : Option Value → AHp → Prop} (ho : isO h x 0) : Ev sc 37 25 [l0, l1, l2, l3] [.int a0, .ref x] h post = Call 5 [.ref x, .int a0] h (fun rv h2 => Ev sc 37 28 [l0, l1, l2, l3] (rv.toList ++ []) h2 post) := e_v (i := 98) (z := 5) (r2 := 0) (as := [.int a0]) (rest := []) (by decide +kernel) rfl rfl (Nat.le_of_ble_eq_true rfl) rfl ho
theorem s37_28 {sc : Scr} {l0 l1 l2 l3 : Value} {x : Int32} {stk : List Value} {h : AHp} {post : Option Value → AHp → Prop} : Ev sc 37 28 [l0, l1, l2, l3] (.int x :: stk) h post = (if x = 0 then Ev sc 37 37 [l0, l1, l2, l3] stk h post else Ev sc 37 31 [l0, l1, l2, l3] stk h post) := e_if_eq (o := 9) (r1 := 0) (r2 := 0) 37 (by decide +kernel) rfl
theorem s37_31 {sc : Scr} {l0 l1 l3 : Value} {x : Int32} {stk : List Value} {h : AHp} {post : Option Value → AHp → Prop} : Ev sc 37 31 [l0, l1, .int x, l3] stk h post = Ev sc 37 32 [l0, l1, .int x, l3] (.int x :: stk) h post := e_1 (e := (31, .iload_n 2, 0, 0)) (q := (32, [l0, l1, .int x, l3], (.int x :: stk), h)) (by decide +kernel) rfl rfl
theorem s37_32 {sc : Scr} {l0 l1 l2 l3 : Value}  {stk : List Value} {h : AHp} {post : Option Value → AHp → Prop} : Ev sc 37 32 [l0, l1, l2, l3] stk h post = Ev sc 37 33 [l0, l1, l2, l3] (.int (1) :: stk) h post := e_1 (e := (32, .iconst 1, 0, 0)) (q := (33, [l0, l1, l2, l3], (.int (1) :: stk), h)) (by decide +kernel) rfl rfl
theorem s37_33 {sc : Scr} {l0 l1 l2 : Value} {x : Int32} {stk : List Value} {h : AHp} {post : Option Value → AHp → Prop} : Ev sc 37 33 [l0, l1, l2, .int x] stk h post = Ev sc 37 34 [l0, l1, l2, .int x] (.int x :: stk) h post := e_1 (e := (33, .iload_n 3, 0, 0)) (q := (34, [l0, l1, l2, .int x], (.int x :: stk), h)) (by decide +kernel) rfl rfl
theorem s37_34 {sc : Scr} {l0 l1 l2 l3 : Value} {x z : Int32} {stk : List Value} {h : AHp} {post : Option Value → AHp → Prop} : Ev sc 37 34 [l0, l1, l2, l3] (.int z :: .int x :: stk) h post = Ev sc 37 35 [l0, l1, l2, l3] (.int (x <<< (z &&& 31)) :: stk) h post := e_1 (e := (34, .ishl, 0, 0)) (q := (35, [l0, l1, l2, l3], (.int (x <<< (z &&& 31)) :: stk), h)) (by decide +kernel) rfl rfl
theorem s37_35 {sc : Scr} {l0 l1 l2 l3 : Value} {x z : Int32} {stk : List Value} {h : AHp} {post : Option Value → AHp → Prop} : Ev sc 37 35 [l0, l1, l2, l3] (.int z :: .int x :: stk) h post = Ev sc 37 36 [l0, l1, l2, l3] (.int (x ||| z) :: stk) h post := e_1 (e := (35, .ior, 0, 0)) (q := (36, [l0, l1, l2, l3], (.int (x ||| z) :: stk), h)) (by decide +kernel) rfl rfl
theorem s37_36 {sc : Scr} {l0 l1 l2 l3 : Value} {x : Int32} {stk : List Value} {h : AHp} {post : Option Value → AHp → Prop} : Ev sc 37 36 [l0, l1, l2, l3] (.int x :: stk) h post = Ev sc 37 37 [l0, l1, .int x, l3] stk h post := e_1 (e := (36, .istore_n 2, 0, 0)) (q := (37, [l0, l1, .int x, l3], stk, h)) (by decide +kernel) rfl rfl
theorem s37_37 {sc : Scr} {l0 l1 l2 : Value} {x : Int32} {stk : List Value} {h : AHp} {post : Option Value → AHp → Prop} : Ev sc 37 37 [l0, l1, l2, .int x] stk h post = Ev sc 37 40 [l0, l1, l2, .int (x + 1)] stk h post := e_1 (e := (37, .iinc 3 1, 0, 0)) (q := (40, [l0, l1, l2, .int (x + 1)], stk, h)) (by decide +kernel) rfl rfl
theorem s37_40 {sc : Scr} {l0 l1 l2 l3 : Value}  {stk : List Value} {h : AHp} {post : Option Value → AHp → Prop} : Ev sc 37 40 [l0, l1, l2, l3] stk h post = Ev sc 37 4 [l0, l1, l2, l3] stk h post := e_1 (e := (40, .goto (-36), 0, 0)) (q := (4, [l0, l1, l2, l3], stk, h)) (by decide +kernel) rfl rfl
theorem s37_43 {sc : Scr} {l0 l1 l3 : Value} {x : Int32} {stk : List Value} {h : AHp} {post : Option Value → AHp → Prop} : Ev sc 37 43 [l0, l1, .int x, l3] stk h post = Ev sc 37 44 [l0, l1, .int x, l3] (.int x :: stk) h post := e_1 (e := (43, .iload_n 2, 0, 0)) (q := (44, [l0, l1, .int x, l3], (.int x :: stk), h)) (by decide +kernel) rfl rfl
theorem s37_44 {sc : Scr} {l0 l1 l2 l3 : Value} {x : Int32} {h : AHp} {post : Option Value → AHp → Prop} : Ev sc 37 44 [l0, l1, l2, l3] [.int x] h post = post (some (.int x)) h := e_r (e := (44, .ireturn, 0, 0)) (by decide +kernel) rfl rfl
-- 38 X3_leastKnown (I)I
theorem s38_e {a0 : Nat} {a1 : Int32} {h : AHp} {post : Option Value → AHp → Prop} : Call 38 [.ref a0, .int a1] h post = Ev none 38 0 [.ref a0, .int a1, .long 0, .long 0] [] h post := rfl
theorem s38_0 {sc : Scr} {l0 l1 l2 l3 : Value}  {stk : List Value} {h : AHp} {post : Option Value → AHp → Prop} : Ev sc 38 0 [l0, l1, l2, l3] stk h post = Ev sc 38 1 [l0, l1, l2, l3] (.null :: stk) h post := e_1 (e := (0, .aconst_null, 0, 0)) (q := (1, [l0, l1, l2, l3], (.null :: stk), h)) (by decide +kernel) rfl rfl
theorem s38_1 {sc : Scr} {l0 l1 l2 l3 : Value} {x : Nat} {stk : List Value} {h : AHp} {post : Option Value → AHp → Prop} : Ev sc 38 1 [l0, l1, l2, l3] (.ref x :: stk) h post = Ev sc 38 2 [l0, l1, .ref x, l3] stk h post := e_1 (e := (1, .astore_n 2, 0, 0)) (q := (2, [l0, l1, .ref x, l3], stk, h)) (by decide +kernel) rfl rfl
theorem s38_1n {sc : Scr} {l0 l1 l2 l3 : Value}  {stk : List Value} {h : AHp} {post : Option Value → AHp → Prop} : Ev sc 38 1 [l0, l1, l2, l3] (.null :: stk) h post = Ev sc 38 2 [l0, l1, .null, l3] stk h post := e_1 (e := (1, .astore_n 2, 0, 0)) (q := (2, [l0, l1, .null, l3], stk, h)) (by decide +kernel) rfl rfl
theorem s38_2 {sc : Scr} {l0 l1 l2 l3 : Value}  {stk : List Value} {h : AHp} {post : Option Value → AHp → Prop} : Ev sc 38 2 [l0, l1, l2, l3] stk h post = Ev sc 38 3 [l0, l1, l2, l3] (.int (0) :: stk) h post := e_1 (e := (2, .iconst 0, 0, 0)) (q := (3, [l0, l1, l2, l3], (.int (0) :: stk), h)) (by decide +kernel) rfl rfl
theorem s38_3 {sc : Scr} {l0 l1 l2 l3 : Value} {x : Int32} {stk : List Value} {h : AHp} {post : Option Value → AHp → Prop} : Ev sc 38 3 [l0, l1, l2, l3] (.int x :: stk) h post = Ev sc 38 4 [l0, l1, l2, .int x] stk h post := e_1 (e := (3, .istore_n 3, 0, 0)) (q := (4, [l0, l1, l2, .int x], stk, h)) (by decide +kernel) rfl rfl
theorem s38_4 {sc : Scr} {l0 l1 l2 : Value} {x : Int32} {stk : List Value} {h : AHp} {post : Option Value → AHp → Prop} : Ev sc 38 4 [l0, l1, l2, .int x] stk h post = Ev sc 38 5 [l0, l1, l2, .int x] (.int x :: stk) h post := e_1 (e := (4, .iload_n 3, 0, 0)) (q := (5, [l0, l1, l2, .int x], (.int x :: stk), h)) (by decide +kernel) rfl rfl
theorem s38_5 {sc : Scr} {l0 l1 l2 l3 : Value}  {stk : List Value} {h : AHp} {post : Option Value → AHp → Prop} : Ev sc 38 5 [l0, l1, l2, l3] stk h post = Ev sc 38 7 [l0, l1, l2, l3] (.int (6) :: stk) h post := e_1 (e := (5, .bipush 6, 0, 0)) (q := (7, [l0, l1, l2, l3], (.int (6) :: stk), h)) (by decide +kernel) rfl rfl
theorem s38_7 {sc : Scr} {l0 l1 l2 l3 : Value} {x z : Int32} {stk : List Value} {h : AHp} {post : Option Value → AHp → Prop} : Ev sc 38 7 [l0, l1, l2, l3] (.int z :: .int x :: stk) h post = (if z ≤ x then Ev sc 38 55 [l0, l1, l2, l3] stk h post else Ev sc 38 10 [l0, l1, l2, l3] stk h post) := e_icmp_ge (o := 48) (r1 := 0) (r2 := 0) 55 (by decide +kernel) rfl
theorem s38_10 {sc : Scr} {l1 l2 l3 : Value} {x : Nat} {stk : List Value} {h : AHp} {post : Option Value → AHp → Prop} : Ev sc 38 10 [.ref x, l1, l2, l3] stk h post = Ev sc 38 11 [.ref x, l1, l2, l3] (.ref x :: stk) h post := e_1 (e := (10, .aload_n 0, 0, 0)) (q := (11, [.ref x, l1, l2, l3], (.ref x :: stk), h)) (by decide +kernel) rfl rfl
theorem s38_11 {sc : Scr} {l0 l1 l2 : Value} {x : Int32} {stk : List Value} {h : AHp} {post : Option Value → AHp → Prop} : Ev sc 38 11 [l0, l1, l2, .int x] stk h post = Ev sc 38 12 [l0, l1, l2, .int x] (.int x :: stk) h post := e_1 (e := (11, .iload_n 3, 0, 0)) (q := (12, [l0, l1, l2, .int x], (.int x :: stk), h)) (by decide +kernel) rfl rfl
theorem s38_12 {sc : Scr} {l0 l1 l2 l3 : Value} {a0 : Int32}  {x : Nat} {h : AHp} {post : Option Value → AHp → Prop} (ho : isO h x 3) : Ev sc 38 12 [l0, l1, l2, l3] [.int a0, .ref x] h post = Call 27 [.ref x, .int a0] h (fun rv h2 => Ev sc 38 15 [l0, l1, l2, l3] (rv.toList ++ []) h2 post) := e_v (i := 88) (z := 27) (r2 := 0) (as := [.int a0]) (rest := []) (by decide +kernel) rfl rfl (Nat.le_of_ble_eq_true rfl) rfl ho
theorem s38_15 {sc : Scr} {l0 l1 l2 l3 : Value} {x : Int32} {stk : List Value} {h : AHp} {post : Option Value → AHp → Prop} : Ev sc 38 15 [l0, l1, l2, l3] (.int x :: stk) h post = (if x = 0 then Ev sc 38 49 [l0, l1, l2, l3] stk h post else Ev sc 38 18 [l0, l1, l2, l3] stk h post) := e_if_eq (o := 34) (r1 := 0) (r2 := 0) 49 (by decide +kernel) rfl
theorem s38_18 {sc : Scr} {l0 l1 l3 : Value} {x : Nat} {stk : List Value} {h : AHp} {post : Option Value → AHp → Prop} : Ev sc 38 18 [l0, l1, .ref x, l3] stk h post = Ev sc 38 19 [l0, l1, .ref x, l3] (.ref x :: stk) h post := e_1 (e := (18, .aload_n 2, 0, 0)) (q := (19, [l0, l1, .ref x, l3], (.ref x :: stk), h)) (by decide +kernel) rfl rfl
theorem s38_18n {sc : Scr} {l0 l1 l3 : Value}  {stk : List Value} {h : AHp} {post : Option Value → AHp → Prop} : Ev sc 38 18 [l0, l1, .null, l3] stk h post = Ev sc 38 19 [l0, l1, .null, l3] (.null :: stk) h post := e_1 (e := (18, .aload_n 2, 0, 0)) (q := (19, [l0, l1, .null, l3], (.null :: stk), h)) (by decide +kernel) rfl rfl
theorem s38_19 {sc : Scr} {l0 l1 l2 l3 : Value} {x : Nat} {stk : List Value} {h : AHp} {post : Option Value → AHp → Prop} : Ev sc 38 19 [l0, l1, l2, l3] (.ref x :: stk) h post = Ev sc 38 22 [l0, l1, l2, l3] stk h post := e_1 (e := (19, .ifnull 23, 0, 0)) (q := (22, [l0, l1, l2, l3], stk, h)) (by decide +kernel) rfl rfl
theorem s38_19n {sc : Scr} {l0 l1 l2 l3 : Value}  {stk : List Value} {h : AHp} {post : Option Value → AHp → Prop} : Ev sc 38 19 [l0, l1, l2, l3] (.null :: stk) h post = Ev sc 38 42 [l0, l1, l2, l3] stk h post := e_1 (e := (19, .ifnull 23, 0, 0)) (q := (42, [l0, l1, l2, l3], stk, h)) (by decide +kernel) rfl rfl
theorem s38_22 {sc : Scr} {l1 l2 l3 : Value} {x : Nat} {stk : List Value} {h : AHp} {post : Option Value → AHp → Prop} : Ev sc 38 22 [.ref x, l1, l2, l3] stk h post = Ev sc 38 23 [.ref x, l1, l2, l3] (.ref x :: stk) h post := e_1 (e := (22, .aload_n 0, 0, 0)) (q := (23, [.ref x, l1, l2, l3], (.ref x :: stk), h)) (by decide +kernel) rfl rfl
theorem s38_23 {sc : Scr} {l0 l1 l2 l3 : Value} {x : Nat} {stk : List Value} {h : AHp} {post : Option Value → AHp → Prop} : Ev sc 38 23 [l0, l1, l2, l3] (.ref x :: stk) h post = oB (fldv h x 3 0) (fun v => Ev sc 38 26 [l0, l1, l2, l3] (v :: stk) h post) := e_get (i := 11) (r1 := 3) (r2 := 0) (by decide +kernel)
theorem s38_26 {sc : Scr} {l0 l1 l2 : Value} {x : Int32} {stk : List Value} {h : AHp} {post : Option Value → AHp → Prop} : Ev sc 38 26 [l0, l1, l2, .int x] stk h post = Ev sc 38 27 [l0, l1, l2, .int x] (.int x :: stk) h post := e_1 (e := (26, .iload_n 3, 0, 0)) (q := (27, [l0, l1, l2, .int x], (.int x :: stk), h)) (by decide +kernel) rfl rfl
theorem s38_27 {sc : Scr} {l0 l1 l2 l3 : Value} {x : Nat} {j : Int32} {stk : List Value} {h : AHp} {post : Option Value → AHp → Prop} : Ev sc 38 27 [l0, l1, l2, l3] (.int j :: .ref x :: stk) h post = oB (ldq h x j) (fun v => Ev sc 38 28 [l0, l1, l2, l3] (v :: stk) h post) := e_ldq (r1 := 0) (r2 := 0) (by decide +kernel)
theorem s38_28 {sc : Scr} {l0 l1 l2 l3 : Value} {x : Nat} {stk : List Value} {h : AHp} {post : Option Value → AHp → Prop} : Ev sc 38 28 [l0, l1, l2, l3] (.ref x :: stk) h post = oB (fldv h x 0 0) (fun v => Ev sc 38 31 [l0, l1, l2, l3] (v :: stk) h post) := e_get (i := 85) (r1 := 0) (r2 := 0) (by decide +kernel)
theorem s38_31 {sc : Scr} {l0 l2 l3 : Value} {x : Int32} {stk : List Value} {h : AHp} {post : Option Value → AHp → Prop} : Ev sc 38 31 [l0, .int x, l2, l3] stk h post = Ev sc 38 32 [l0, .int x, l2, l3] (.int x :: stk) h post := e_1 (e := (31, .iload_n 1, 0, 0)) (q := (32, [l0, .int x, l2, l3], (.int x :: stk), h)) (by decide +kernel) rfl rfl
theorem s38_32 {sc : Scr} {l0 l1 l2 l3 : Value} {x : Nat} {j : Int32} {stk : List Value} {h : AHp} {post : Option Value → AHp → Prop} : Ev sc 38 32 [l0, l1, l2, l3] (.int j :: .ref x :: stk) h post = oB (ldi h x j) (fun v => Ev sc 38 33 [l0, l1, l2, l3] (.int v :: stk) h post) := e_ldi (r1 := 0) (r2 := 0) (by decide +kernel)
theorem s38_33 {sc : Scr} {l0 l1 l3 : Value} {x : Nat} {stk : List Value} {h : AHp} {post : Option Value → AHp → Prop} : Ev sc 38 33 [l0, l1, .ref x, l3] stk h post = Ev sc 38 34 [l0, l1, .ref x, l3] (.ref x :: stk) h post := e_1 (e := (33, .aload_n 2, 0, 0)) (q := (34, [l0, l1, .ref x, l3], (.ref x :: stk), h)) (by decide +kernel) rfl rfl
theorem s38_33n {sc : Scr} {l0 l1 l3 : Value}  {stk : List Value} {h : AHp} {post : Option Value → AHp → Prop} : Ev sc 38 33 [l0, l1, .null, l3] stk h post = Ev sc 38 34 [l0, l1, .null, l3] (.null :: stk) h post := e_1 (e := (33, .aload_n 2, 0, 0)) (q := (34, [l0, l1, .null, l3], (.null :: stk), h)) (by decide +kernel) rfl rfl
theorem s38_34 {sc : Scr} {l0 l1 l2 l3 : Value} {x : Nat} {stk : List Value} {h : AHp} {post : Option Value → AHp → Prop} : Ev sc 38 34 [l0, l1, l2, l3] (.ref x :: stk) h post = oB (fldv h x 0 0) (fun v => Ev sc 38 37 [l0, l1, l2, l3] (v :: stk) h post) := e_get (i := 85) (r1 := 0) (r2 := 0) (by decide +kernel)
theorem s38_37 {sc : Scr} {l0 l2 l3 : Value} {x : Int32} {stk : List Value} {h : AHp} {post : Option Value → AHp → Prop} : Ev sc 38 37 [l0, .int x, l2, l3] stk h post = Ev sc 38 38 [l0, .int x, l2, l3] (.int x :: stk) h post := e_1 (e := (37, .iload_n 1, 0, 0)) (q := (38, [l0, .int x, l2, l3], (.int x :: stk), h)) (by decide +kernel) rfl rfl
theorem s38_38 {sc : Scr} {l0 l1 l2 l3 : Value} {x : Nat} {j : Int32} {stk : List Value} {h : AHp} {post : Option Value → AHp → Prop} : Ev sc 38 38 [l0, l1, l2, l3] (.int j :: .ref x :: stk) h post = oB (ldi h x j) (fun v => Ev sc 38 39 [l0, l1, l2, l3] (.int v :: stk) h post) := e_ldi (r1 := 0) (r2 := 0) (by decide +kernel)
theorem s38_39 {sc : Scr} {l0 l1 l2 l3 : Value} {x z : Int32} {stk : List Value} {h : AHp} {post : Option Value → AHp → Prop} : Ev sc 38 39 [l0, l1, l2, l3] (.int z :: .int x :: stk) h post = (if z ≤ x then Ev sc 38 49 [l0, l1, l2, l3] stk h post else Ev sc 38 42 [l0, l1, l2, l3] stk h post) := e_icmp_ge (o := 10) (r1 := 0) (r2 := 0) 49 (by decide +kernel) rfl
theorem s38_42 {sc : Scr} {l1 l2 l3 : Value} {x : Nat} {stk : List Value} {h : AHp} {post : Option Value → AHp → Prop} : Ev sc 38 42 [.ref x, l1, l2, l3] stk h post = Ev sc 38 43 [.ref x, l1, l2, l3] (.ref x :: stk) h post := e_1 (e := (42, .aload_n 0, 0, 0)) (q := (43, [.ref x, l1, l2, l3], (.ref x :: stk), h)) (by decide +kernel) rfl rfl
theorem s38_43 {sc : Scr} {l0 l1 l2 l3 : Value} {x : Nat} {stk : List Value} {h : AHp} {post : Option Value → AHp → Prop} : Ev sc 38 43 [l0, l1, l2, l3] (.ref x :: stk) h post = oB (fldv h x 3 0) (fun v => Ev sc 38 46 [l0, l1, l2, l3] (v :: stk) h post) := e_get (i := 11) (r1 := 3) (r2 := 0) (by decide +kernel)
theorem s38_46 {sc : Scr} {l0 l1 l2 : Value} {x : Int32} {stk : List Value} {h : AHp} {post : Option Value → AHp → Prop} : Ev sc 38 46 [l0, l1, l2, .int x] stk h post = Ev sc 38 47 [l0, l1, l2, .int x] (.int x :: stk) h post := e_1 (e := (46, .iload_n 3, 0, 0)) (q := (47, [l0, l1, l2, .int x], (.int x :: stk), h)) (by decide +kernel) rfl rfl
theorem s38_47 {sc : Scr} {l0 l1 l2 l3 : Value} {x : Nat} {j : Int32} {stk : List Value} {h : AHp} {post : Option Value → AHp → Prop} : Ev sc 38 47 [l0, l1, l2, l3] (.int j :: .ref x :: stk) h post = oB (ldq h x j) (fun v => Ev sc 38 48 [l0, l1, l2, l3] (v :: stk) h post) := e_ldq (r1 := 0) (r2 := 0) (by decide +kernel)
theorem s38_48 {sc : Scr} {l0 l1 l2 l3 : Value} {x : Nat} {stk : List Value} {h : AHp} {post : Option Value → AHp → Prop} : Ev sc 38 48 [l0, l1, l2, l3] (.ref x :: stk) h post = Ev sc 38 49 [l0, l1, .ref x, l3] stk h post := e_1 (e := (48, .astore_n 2, 0, 0)) (q := (49, [l0, l1, .ref x, l3], stk, h)) (by decide +kernel) rfl rfl
theorem s38_49 {sc : Scr} {l0 l1 l2 : Value} {x : Int32} {stk : List Value} {h : AHp} {post : Option Value → AHp → Prop} : Ev sc 38 49 [l0, l1, l2, .int x] stk h post = Ev sc 38 52 [l0, l1, l2, .int (x + 1)] stk h post := e_1 (e := (49, .iinc 3 1, 0, 0)) (q := (52, [l0, l1, l2, .int (x + 1)], stk, h)) (by decide +kernel) rfl rfl
theorem s38_52 {sc : Scr} {l0 l1 l2 l3 : Value}  {stk : List Value} {h : AHp} {post : Option Value → AHp → Prop} : Ev sc 38 52 [l0, l1, l2, l3] stk h post = Ev sc 38 4 [l0, l1, l2, l3] stk h post := e_1 (e := (52, .goto (-48), 0, 0)) (q := (4, [l0, l1, l2, l3], stk, h)) (by decide +kernel) rfl rfl
theorem s38_55 {sc : Scr} {l0 l1 l3 : Value} {x : Nat} {stk : List Value} {h : AHp} {post : Option Value → AHp → Prop} : Ev sc 38 55 [l0, l1, .ref x, l3] stk h post = Ev sc 38 56 [l0, l1, .ref x, l3] (.ref x :: stk) h post := e_1 (e := (55, .aload_n 2, 0, 0)) (q := (56, [l0, l1, .ref x, l3], (.ref x :: stk), h)) (by decide +kernel) rfl rfl
theorem s38_55n {sc : Scr} {l0 l1 l3 : Value}  {stk : List Value} {h : AHp} {post : Option Value → AHp → Prop} : Ev sc 38 55 [l0, l1, .null, l3] stk h post = Ev sc 38 56 [l0, l1, .null, l3] (.null :: stk) h post := e_1 (e := (55, .aload_n 2, 0, 0)) (q := (56, [l0, l1, .null, l3], (.null :: stk), h)) (by decide +kernel) rfl rfl
theorem s38_56 {sc : Scr} {l0 l1 l2 l3 : Value} {x : Nat} {stk : List Value} {h : AHp} {post : Option Value → AHp → Prop} : Ev sc 38 56 [l0, l1, l2, l3] (.ref x :: stk) h post = Ev sc 38 63 [l0, l1, l2, l3] stk h post := e_1 (e := (56, .ifnonnull 7, 0, 0)) (q := (63, [l0, l1, l2, l3], stk, h)) (by decide +kernel) rfl rfl
theorem s38_56n {sc : Scr} {l0 l1 l2 l3 : Value}  {stk : List Value} {h : AHp} {post : Option Value → AHp → Prop} : Ev sc 38 56 [l0, l1, l2, l3] (.null :: stk) h post = Ev sc 38 59 [l0, l1, l2, l3] stk h post := e_1 (e := (56, .ifnonnull 7, 0, 0)) (q := (59, [l0, l1, l2, l3], stk, h)) (by decide +kernel) rfl rfl
theorem s38_59 {sc : Scr} {l0 l1 l2 l3 : Value}  {stk : List Value} {h : AHp} {post : Option Value → AHp → Prop} : Ev sc 38 59 [l0, l1, l2, l3] stk h post = Ev sc 38 60 [l0, l1, l2, l3] (.int (0) :: stk) h post := e_1 (e := (59, .iconst 0, 0, 0)) (q := (60, [l0, l1, l2, l3], (.int (0) :: stk), h)) (by decide +kernel) rfl rfl
theorem s38_60 {sc : Scr} {l0 l1 l2 l3 : Value}  {stk : List Value} {h : AHp} {post : Option Value → AHp → Prop} : Ev sc 38 60 [l0, l1, l2, l3] stk h post = Ev sc 38 76 [l0, l1, l2, l3] stk h post := e_1 (e := (60, .goto 16, 0, 0)) (q := (76, [l0, l1, l2, l3], stk, h)) (by decide +kernel) rfl rfl
theorem s38_63 {sc : Scr} {l0 l1 l3 : Value} {x : Nat} {stk : List Value} {h : AHp} {post : Option Value → AHp → Prop} : Ev sc 38 63 [l0, l1, .ref x, l3] stk h post = Ev sc 38 64 [l0, l1, .ref x, l3] (.ref x :: stk) h post := e_1 (e := (63, .aload_n 2, 0, 0)) (q := (64, [l0, l1, .ref x, l3], (.ref x :: stk), h)) (by decide +kernel) rfl rfl
theorem s38_63n {sc : Scr} {l0 l1 l3 : Value}  {stk : List Value} {h : AHp} {post : Option Value → AHp → Prop} : Ev sc 38 63 [l0, l1, .null, l3] stk h post = Ev sc 38 64 [l0, l1, .null, l3] (.null :: stk) h post := e_1 (e := (63, .aload_n 2, 0, 0)) (q := (64, [l0, l1, .null, l3], (.null :: stk), h)) (by decide +kernel) rfl rfl
theorem s38_64 {sc : Scr} {l0 l1 l2 l3 : Value} {x : Nat} {stk : List Value} {h : AHp} {post : Option Value → AHp → Prop} : Ev sc 38 64 [l0, l1, l2, l3] (.ref x :: stk) h post = oB (fldv h x 0 1) (fun v => Ev sc 38 67 [l0, l1, l2, l3] (v :: stk) h post) := e_get (i := 101) (r1 := 0) (r2 := 1) (by decide +kernel)
theorem s38_67 {sc : Scr} {l0 l2 l3 : Value} {x : Int32} {stk : List Value} {h : AHp} {post : Option Value → AHp → Prop} : Ev sc 38 67 [l0, .int x, l2, l3] stk h post = Ev sc 38 68 [l0, .int x, l2, l3] (.int x :: stk) h post := e_1 (e := (67, .iload_n 1, 0, 0)) (q := (68, [l0, .int x, l2, l3], (.int x :: stk), h)) (by decide +kernel) rfl rfl
theorem s38_68 {sc : Scr} {l0 l1 l2 l3 : Value} {x : Nat} {j : Int32} {stk : List Value} {h : AHp} {post : Option Value → AHp → Prop} : Ev sc 38 68 [l0, l1, l2, l3] (.int j :: .ref x :: stk) h post = oB (ldi h x j) (fun v => Ev sc 38 69 [l0, l1, l2, l3] (.int v :: stk) h post) := e_ldi (r1 := 0) (r2 := 0) (by decide +kernel)
theorem s38_69 {sc : Scr} {l0 l1 l3 : Value} {x : Nat} {stk : List Value} {h : AHp} {post : Option Value → AHp → Prop} : Ev sc 38 69 [l0, l1, .ref x, l3] stk h post = Ev sc 38 70 [l0, l1, .ref x, l3] (.ref x :: stk) h post := e_1 (e := (69, .aload_n 2, 0, 0)) (q := (70, [l0, l1, .ref x, l3], (.ref x :: stk), h)) (by decide +kernel) rfl rfl
theorem s38_69n {sc : Scr} {l0 l1 l3 : Value}  {stk : List Value} {h : AHp} {post : Option Value → AHp → Prop} : Ev sc 38 69 [l0, l1, .null, l3] stk h post = Ev sc 38 70 [l0, l1, .null, l3] (.null :: stk) h post := e_1 (e := (69, .aload_n 2, 0, 0)) (q := (70, [l0, l1, .null, l3], (.null :: stk), h)) (by decide +kernel) rfl rfl
theorem s38_70 {sc : Scr} {l0 l1 l2 l3 : Value} {x : Nat} {stk : List Value} {h : AHp} {post : Option Value → AHp → Prop} : Ev sc 38 70 [l0, l1, l2, l3] (.ref x :: stk) h post = oB (fldv h x 0 2) (fun v => Ev sc 38 73 [l0, l1, l2, l3] (v :: stk) h post) := e_get (i := 104) (r1 := 0) (r2 := 2) (by decide +kernel)
theorem s38_73 {sc : Scr} {l0 l2 l3 : Value} {x : Int32} {stk : List Value} {h : AHp} {post : Option Value → AHp → Prop} : Ev sc 38 73 [l0, .int x, l2, l3] stk h post = Ev sc 38 74 [l0, .int x, l2, l3] (.int x :: stk) h post := e_1 (e := (73, .iload_n 1, 0, 0)) (q := (74, [l0, .int x, l2, l3], (.int x :: stk), h)) (by decide +kernel) rfl rfl
theorem s38_74 {sc : Scr} {l0 l1 l2 l3 : Value} {x : Nat} {j : Int32} {stk : List Value} {h : AHp} {post : Option Value → AHp → Prop} : Ev sc 38 74 [l0, l1, l2, l3] (.int j :: .ref x :: stk) h post = oB (ldi h x j) (fun v => Ev sc 38 75 [l0, l1, l2, l3] (.int v :: stk) h post) := e_ldi (r1 := 0) (r2 := 0) (by decide +kernel)
theorem s38_75 {sc : Scr} {l0 l1 l2 l3 : Value} {x z : Int32} {stk : List Value} {h : AHp} {post : Option Value → AHp → Prop} : Ev sc 38 75 [l0, l1, l2, l3] (.int z :: .int x :: stk) h post = Ev sc 38 76 [l0, l1, l2, l3] (.int (x - z) :: stk) h post := e_1 (e := (75, .isub, 0, 0)) (q := (76, [l0, l1, l2, l3], (.int (x - z) :: stk), h)) (by decide +kernel) rfl rfl
theorem s38_76 {sc : Scr} {l0 l1 l2 l3 : Value} {x : Int32} {h : AHp} {post : Option Value → AHp → Prop} : Ev sc 38 76 [l0, l1, l2, l3] [.int x] h post = post (some (.int x)) h := e_r (e := (76, .ireturn, 0, 0)) (by decide +kernel) rfl rfl
-- 39 X3_bringWriter (I)I
theorem s39_e {a0 : Nat} {a1 : Int32} {h : AHp} {post : Option Value → AHp → Prop} : Call 39 [.ref a0, .int a1] h post = Ev none 39 0 [.ref a0, .int a1, .long 0] [] h post := rfl
theorem s39_0 {sc : Scr} {l1 l2 : Value} {x : Nat} {stk : List Value} {h : AHp} {post : Option Value → AHp → Prop} : Ev sc 39 0 [.ref x, l1, l2] stk h post = Ev sc 39 1 [.ref x, l1, l2] (.ref x :: stk) h post := e_1 (e := (0, .aload_n 0, 0, 0)) (q := (1, [.ref x, l1, l2], (.ref x :: stk), h)) (by decide +kernel) rfl rfl
theorem s39_1 {sc : Scr} {l0 l2 : Value} {x : Int32} {stk : List Value} {h : AHp} {post : Option Value → AHp → Prop} : Ev sc 39 1 [l0, .int x, l2] stk h post = Ev sc 39 2 [l0, .int x, l2] (.int x :: stk) h post := e_1 (e := (1, .iload_n 1, 0, 0)) (q := (2, [l0, .int x, l2], (.int x :: stk), h)) (by decide +kernel) rfl rfl
theorem s39_2 {sc : Scr} {l0 l1 l2 : Value} {a0 : Int32}  {x : Nat} {h : AHp} {post : Option Value → AHp → Prop} (ho : isO h x 3) : Ev sc 39 2 [l0, l1, l2] [.int a0, .ref x] h post = Call 27 [.ref x, .int a0] h (fun rv h2 => Ev sc 39 5 [l0, l1, l2] (rv.toList ++ []) h2 post) := e_v (i := 88) (z := 27) (r2 := 0) (as := [.int a0]) (rest := []) (by decide +kernel) rfl rfl (Nat.le_of_ble_eq_true rfl) rfl ho
theorem s39_5 {sc : Scr} {l0 l1 l2 : Value} {x : Int32} {stk : List Value} {h : AHp} {post : Option Value → AHp → Prop} : Ev sc 39 5 [l0, l1, l2] (.int x :: stk) h post = (if ¬ x = 0 then Ev sc 39 11 [l0, l1, l2] stk h post else Ev sc 39 8 [l0, l1, l2] stk h post) := e_if_ne (o := 6) (r1 := 0) (r2 := 0) 11 (by decide +kernel) rfl
theorem s39_8 {sc : Scr} {l0 l1 l2 : Value}  {stk : List Value} {h : AHp} {post : Option Value → AHp → Prop} : Ev sc 39 8 [l0, l1, l2] stk h post = Ev sc 39 10 [l0, l1, l2] (.int (-2000000001) :: stk) h post := e_1 (e := (8, .ldc 107, 0, -2000000001)) (q := (10, [l0, l1, l2], (.int (-2000000001) :: stk), h)) (by decide +kernel) rfl rfl
theorem s39_10 {sc : Scr} {l0 l1 l2 : Value} {x : Int32} {h : AHp} {post : Option Value → AHp → Prop} : Ev sc 39 10 [l0, l1, l2] [.int x] h post = post (some (.int x)) h := e_r (e := (10, .ireturn, 0, 0)) (by decide +kernel) rfl rfl
theorem s39_11 {sc : Scr} {l1 l2 : Value} {x : Nat} {stk : List Value} {h : AHp} {post : Option Value → AHp → Prop} : Ev sc 39 11 [.ref x, l1, l2] stk h post = Ev sc 39 12 [.ref x, l1, l2] (.ref x :: stk) h post := e_1 (e := (11, .aload_n 0, 0, 0)) (q := (12, [.ref x, l1, l2], (.ref x :: stk), h)) (by decide +kernel) rfl rfl
theorem s39_12 {sc : Scr} {l0 l1 l2 : Value} {x : Nat} {stk : List Value} {h : AHp} {post : Option Value → AHp → Prop} : Ev sc 39 12 [l0, l1, l2] (.ref x :: stk) h post = oB (fldv h x 3 4) (fun v => Ev sc 39 15 [l0, l1, l2] (v :: stk) h post) := e_get (i := 28) (r1 := 3) (r2 := 4) (by decide +kernel)
theorem s39_15 {sc : Scr} {l0 l1 l2 : Value}  {stk : List Value} {h : AHp} {post : Option Value → AHp → Prop} : Ev sc 39 15 [l0, l1, l2] stk h post = Ev sc 39 17 [l0, l1, l2] (.int (8) :: stk) h post := e_1 (e := (15, .bipush 8, 0, 0)) (q := (17, [l0, l1, l2], (.int (8) :: stk), h)) (by decide +kernel) rfl rfl
theorem s39_17 {sc : Scr} {l0 l1 l2 : Value} {x z : Int32} {stk : List Value} {h : AHp} {post : Option Value → AHp → Prop} : Ev sc 39 17 [l0, l1, l2] (.int z :: .int x :: stk) h post = (if x < z then Ev sc 39 23 [l0, l1, l2] stk h post else Ev sc 39 20 [l0, l1, l2] stk h post) := e_icmp_lt (o := 6) (r1 := 0) (r2 := 0) 23 (by decide +kernel) rfl
theorem s39_20 {sc : Scr} {l0 l1 l2 : Value}  {stk : List Value} {h : AHp} {post : Option Value → AHp → Prop} : Ev sc 39 20 [l0, l1, l2] stk h post = Ev sc 39 22 [l0, l1, l2] (.int (-2000000003) :: stk) h post := e_1 (e := (20, .ldc 108, 0, -2000000003)) (q := (22, [l0, l1, l2], (.int (-2000000003) :: stk), h)) (by decide +kernel) rfl rfl
theorem s39_22 {sc : Scr} {l0 l1 l2 : Value} {x : Int32} {h : AHp} {post : Option Value → AHp → Prop} : Ev sc 39 22 [l0, l1, l2] [.int x] h post = post (some (.int x)) h := e_r (e := (22, .ireturn, 0, 0)) (by decide +kernel) rfl rfl
theorem s39_23 {sc : Scr} {l1 l2 : Value} {x : Nat} {stk : List Value} {h : AHp} {post : Option Value → AHp → Prop} : Ev sc 39 23 [.ref x, l1, l2] stk h post = Ev sc 39 24 [.ref x, l1, l2] (.ref x :: stk) h post := e_1 (e := (23, .aload_n 0, 0, 0)) (q := (24, [.ref x, l1, l2], (.ref x :: stk), h)) (by decide +kernel) rfl rfl
theorem s39_24 {sc : Scr} {l0 l1 l2 : Value} {x : Nat} {stk : List Value} {h : AHp} {post : Option Value → AHp → Prop} : Ev sc 39 24 [l0, l1, l2] (.ref x :: stk) h post = oB (fldv h x 3 4) (fun v => Ev sc 39 27 [l0, l1, l2] (v :: stk) h post) := e_get (i := 28) (r1 := 3) (r2 := 4) (by decide +kernel)
theorem s39_27 {sc : Scr} {l0 l1 l2 : Value} {x : Int32} {stk : List Value} {h : AHp} {post : Option Value → AHp → Prop} : Ev sc 39 27 [l0, l1, l2] (.int x :: stk) h post = Ev sc 39 28 [l0, l1, .int x] stk h post := e_1 (e := (27, .istore_n 2, 0, 0)) (q := (28, [l0, l1, .int x], stk, h)) (by decide +kernel) rfl rfl
theorem s39_28 {sc : Scr} {l1 l2 : Value} {x : Nat} {stk : List Value} {h : AHp} {post : Option Value → AHp → Prop} : Ev sc 39 28 [.ref x, l1, l2] stk h post = Ev sc 39 29 [.ref x, l1, l2] (.ref x :: stk) h post := e_1 (e := (28, .aload_n 0, 0, 0)) (q := (29, [.ref x, l1, l2], (.ref x :: stk), h)) (by decide +kernel) rfl rfl
theorem s39_29 {sc : Scr} {l0 l1 l2 : Value} {x : Nat} {stk : List Value} {h : AHp} {post : Option Value → AHp → Prop} : Ev sc 39 29 [l0, l1, l2] (.ref x :: stk) h post = Ev sc 39 30 [l0, l1, l2] (.ref x :: .ref x :: stk) h post := e_1 (e := (29, .dup, 0, 0)) (q := (30, [l0, l1, l2], (.ref x :: .ref x :: stk), h)) (by decide +kernel) rfl rfl
theorem s39_30 {sc : Scr} {l0 l1 l2 : Value} {x : Nat} {stk : List Value} {h : AHp} {post : Option Value → AHp → Prop} : Ev sc 39 30 [l0, l1, l2] (.ref x :: stk) h post = oB (fldv h x 3 4) (fun v => Ev sc 39 33 [l0, l1, l2] (v :: stk) h post) := e_get (i := 28) (r1 := 3) (r2 := 4) (by decide +kernel)
theorem s39_33 {sc : Scr} {l0 l1 l2 : Value}  {stk : List Value} {h : AHp} {post : Option Value → AHp → Prop} : Ev sc 39 33 [l0, l1, l2] stk h post = Ev sc 39 34 [l0, l1, l2] (.int (1) :: stk) h post := e_1 (e := (33, .iconst 1, 0, 0)) (q := (34, [l0, l1, l2], (.int (1) :: stk), h)) (by decide +kernel) rfl rfl
theorem s39_34 {sc : Scr} {l0 l1 l2 : Value} {x z : Int32} {stk : List Value} {h : AHp} {post : Option Value → AHp → Prop} : Ev sc 39 34 [l0, l1, l2] (.int z :: .int x :: stk) h post = Ev sc 39 35 [l0, l1, l2] (.int (x + z) :: stk) h post := e_1 (e := (34, .iadd, 0, 0)) (q := (35, [l0, l1, l2], (.int (x + z) :: stk), h)) (by decide +kernel) rfl rfl
theorem s39_35 {sc : Scr} {l0 l1 l2 : Value} {x : Nat} {v : Int32} {stk : List Value} {h : AHp} {post : Option Value → AHp → Prop} : Ev sc 39 35 [l0, l1, l2] (.int v :: .ref x :: stk) h post = oB (stf h x 3 4 (.int v)) (fun h2 => Ev sc 39 38 [l0, l1, l2] stk h2 post) := e_put (i := 28) (r1 := 3) (r2 := 4) (by decide +kernel)
theorem s39_38 {sc : Scr} {l1 l2 : Value} {x : Nat} {stk : List Value} {h : AHp} {post : Option Value → AHp → Prop} : Ev sc 39 38 [.ref x, l1, l2] stk h post = Ev sc 39 39 [.ref x, l1, l2] (.ref x :: stk) h post := e_1 (e := (38, .aload_n 0, 0, 0)) (q := (39, [.ref x, l1, l2], (.ref x :: stk), h)) (by decide +kernel) rfl rfl
theorem s39_39 {sc : Scr} {l0 l1 l2 : Value} {x : Nat} {stk : List Value} {h : AHp} {post : Option Value → AHp → Prop} : Ev sc 39 39 [l0, l1, l2] (.ref x :: stk) h post = oB (fldv h x 3 2) (fun v => Ev sc 39 42 [l0, l1, l2] (v :: stk) h post) := e_get (i := 21) (r1 := 3) (r2 := 2) (by decide +kernel)
theorem s39_42 {sc : Scr} {l0 l1 : Value} {x : Int32} {stk : List Value} {h : AHp} {post : Option Value → AHp → Prop} : Ev sc 39 42 [l0, l1, .int x] stk h post = Ev sc 39 43 [l0, l1, .int x] (.int x :: stk) h post := e_1 (e := (42, .iload_n 2, 0, 0)) (q := (43, [l0, l1, .int x], (.int x :: stk), h)) (by decide +kernel) rfl rfl
theorem s39_43 {sc : Scr} {l0 l2 : Value} {x : Int32} {stk : List Value} {h : AHp} {post : Option Value → AHp → Prop} : Ev sc 39 43 [l0, .int x, l2] stk h post = Ev sc 39 44 [l0, .int x, l2] (.int x :: stk) h post := e_1 (e := (43, .iload_n 1, 0, 0)) (q := (44, [l0, .int x, l2], (.int x :: stk), h)) (by decide +kernel) rfl rfl
theorem s39_44 {sc : Scr} {l0 l1 l2 : Value} {x : Nat} {j v : Int32} {stk : List Value} {h : AHp} {post : Option Value → AHp → Prop} : Ev sc 39 44 [l0, l1, l2] (.int v :: .int j :: .ref x :: stk) h post = oB (sti h x j v) (fun h2 => Ev sc 39 45 [l0, l1, l2] stk h2 post) := e_sti (r1 := 0) (r2 := 0) (by decide +kernel)
theorem s39_45 {sc : Scr} {l1 l2 : Value} {x : Nat} {stk : List Value} {h : AHp} {post : Option Value → AHp → Prop} : Ev sc 39 45 [.ref x, l1, l2] stk h post = Ev sc 39 46 [.ref x, l1, l2] (.ref x :: stk) h post := e_1 (e := (45, .aload_n 0, 0, 0)) (q := (46, [.ref x, l1, l2], (.ref x :: stk), h)) (by decide +kernel) rfl rfl
theorem s39_46 {sc : Scr} {l0 l1 l2 : Value} {x : Nat} {stk : List Value} {h : AHp} {post : Option Value → AHp → Prop} : Ev sc 39 46 [l0, l1, l2] (.ref x :: stk) h post = oB (fldv h x 3 3) (fun v => Ev sc 39 49 [l0, l1, l2] (v :: stk) h post) := e_get (i := 25) (r1 := 3) (r2 := 3) (by decide +kernel)
theorem s39_49 {sc : Scr} {l0 l1 : Value} {x : Int32} {stk : List Value} {h : AHp} {post : Option Value → AHp → Prop} : Ev sc 39 49 [l0, l1, .int x] stk h post = Ev sc 39 50 [l0, l1, .int x] (.int x :: stk) h post := e_1 (e := (49, .iload_n 2, 0, 0)) (q := (50, [l0, l1, .int x], (.int x :: stk), h)) (by decide +kernel) rfl rfl
theorem s39_50 {sc : Scr} {l0 l1 l2 : Value}  {stk : List Value} {h : AHp} {post : Option Value → AHp → Prop} : Ev sc 39 50 [l0, l1, l2] stk h post = Ev sc 39 51 [l0, l1, l2] (.int (-1) :: stk) h post := e_1 (e := (50, .iconst (-1), 0, 0)) (q := (51, [l0, l1, l2], (.int (-1) :: stk), h)) (by decide +kernel) rfl rfl
theorem s39_51 {sc : Scr} {l0 l1 l2 : Value} {x : Nat} {j v : Int32} {stk : List Value} {h : AHp} {post : Option Value → AHp → Prop} : Ev sc 39 51 [l0, l1, l2] (.int v :: .int j :: .ref x :: stk) h post = oB (sti h x j v) (fun h2 => Ev sc 39 52 [l0, l1, l2] stk h2 post) := e_sti (r1 := 0) (r2 := 0) (by decide +kernel)
theorem s39_52 {sc : Scr} {l1 l2 : Value} {x : Nat} {stk : List Value} {h : AHp} {post : Option Value → AHp → Prop} : Ev sc 39 52 [.ref x, l1, l2] stk h post = Ev sc 39 53 [.ref x, l1, l2] (.ref x :: stk) h post := e_1 (e := (52, .aload_n 0, 0, 0)) (q := (53, [.ref x, l1, l2], (.ref x :: stk), h)) (by decide +kernel) rfl rfl
theorem s39_53 {sc : Scr} {l0 l1 l2 : Value} {x : Nat} {stk : List Value} {h : AHp} {post : Option Value → AHp → Prop} : Ev sc 39 53 [l0, l1, l2] (.ref x :: stk) h post = oB (fldv h x 3 0) (fun v => Ev sc 39 56 [l0, l1, l2] (v :: stk) h post) := e_get (i := 11) (r1 := 3) (r2 := 0) (by decide +kernel)
theorem s39_56 {sc : Scr} {l0 l2 : Value} {x : Int32} {stk : List Value} {h : AHp} {post : Option Value → AHp → Prop} : Ev sc 39 56 [l0, .int x, l2] stk h post = Ev sc 39 57 [l0, .int x, l2] (.int x :: stk) h post := e_1 (e := (56, .iload_n 1, 0, 0)) (q := (57, [l0, .int x, l2], (.int x :: stk), h)) (by decide +kernel) rfl rfl
theorem s39_57 {sc : Scr} {l0 l1 l2 : Value} {x : Nat} {j : Int32} {stk : List Value} {h : AHp} {post : Option Value → AHp → Prop} : Ev sc 39 57 [l0, l1, l2] (.int j :: .ref x :: stk) h post = oB (ldq h x j) (fun v => Ev sc 39 58 [l0, l1, l2] (v :: stk) h post) := e_ldq (r1 := 0) (r2 := 0) (by decide +kernel)
theorem s39_58 {sc : Scr} {l0 l1 : Value} {x : Int32} {stk : List Value} {h : AHp} {post : Option Value → AHp → Prop} : Ev sc 39 58 [l0, l1, .int x] stk h post = Ev sc 39 59 [l0, l1, .int x] (.int x :: stk) h post := e_1 (e := (58, .iload_n 2, 0, 0)) (q := (59, [l0, l1, .int x], (.int x :: stk), h)) (by decide +kernel) rfl rfl
theorem s39_59 {sc : Scr} {l0 l1 l2 : Value}  {stk : List Value} {h : AHp} {post : Option Value → AHp → Prop} : Ev sc 39 59 [l0, l1, l2] stk h post = Ev sc 39 60 [l0, l1, l2] (.int (0) :: stk) h post := e_1 (e := (59, .iconst 0, 0, 0)) (q := (60, [l0, l1, l2], (.int (0) :: stk), h)) (by decide +kernel) rfl rfl
theorem s39_60 {sc : Scr} {l0 l1 l2 : Value}  {stk : List Value} {h : AHp} {post : Option Value → AHp → Prop} : Ev sc 39 60 [l0, l1, l2] stk h post = Ev sc 39 61 [l0, l1, l2] (.int (0) :: stk) h post := e_1 (e := (60, .iconst 0, 0, 0)) (q := (61, [l0, l1, l2], (.int (0) :: stk), h)) (by decide +kernel) rfl rfl
theorem s39_61 {sc : Scr} {l0 l1 l2 : Value} {a0 : Int32} {a1 : Int32} {a2 : Int32}  {x : Nat} {h : AHp} {post : Option Value → AHp → Prop} (ho : isO h x 0) : Ev sc 39 61 [l0, l1, l2] [.int a0, .int a1, .int a2, .ref x] h post = Call 6 [.ref x, .int a2, .int a1, .int a0] h (fun rv h2 => Ev sc 39 64 [l0, l1, l2] (rv.toList ++ []) h2 post) := e_v (i := 109) (z := 6) (r2 := 0) (as := [.int a2, .int a1, .int a0]) (rest := []) (by decide +kernel) rfl rfl (Nat.le_of_ble_eq_true rfl) rfl ho
theorem s39_64 {sc : Scr} {l0 l1 : Value} {x : Int32} {stk : List Value} {h : AHp} {post : Option Value → AHp → Prop} : Ev sc 39 64 [l0, l1, .int x] stk h post = Ev sc 39 65 [l0, l1, .int x] (.int x :: stk) h post := e_1 (e := (64, .iload_n 2, 0, 0)) (q := (65, [l0, l1, .int x], (.int x :: stk), h)) (by decide +kernel) rfl rfl
theorem s39_65 {sc : Scr} {l0 l1 l2 : Value} {x : Int32} {h : AHp} {post : Option Value → AHp → Prop} : Ev sc 39 65 [l0, l1, l2] [.int x] h post = post (some (.int x)) h := e_r (e := (65, .ireturn, 0, 0)) (by decide +kernel) rfl rfl
-- 40 X3_addAmount (II)I
theorem s40_e {a0 : Nat} {a1 : Int32} {a2 : Int32} {h : AHp} {post : Option Value → AHp → Prop} : Call 40 [.ref a0, .int a1, .int a2] h post = Ev none 40 0 [.ref a0, .int a1, .int a2] [] h post := rfl
theorem s40_0 {sc : Scr} {l1 l2 : Value} {x : Nat} {stk : List Value} {h : AHp} {post : Option Value → AHp → Prop} : Ev sc 40 0 [.ref x, l1, l2] stk h post = Ev sc 40 1 [.ref x, l1, l2] (.ref x :: stk) h post := e_1 (e := (0, .aload_n 0, 0, 0)) (q := (1, [.ref x, l1, l2], (.ref x :: stk), h)) (by decide +kernel) rfl rfl
theorem s40_1 {sc : Scr} {l0 l2 : Value} {x : Int32} {stk : List Value} {h : AHp} {post : Option Value → AHp → Prop} : Ev sc 40 1 [l0, .int x, l2] stk h post = Ev sc 40 2 [l0, .int x, l2] (.int x :: stk) h post := e_1 (e := (1, .iload_n 1, 0, 0)) (q := (2, [l0, .int x, l2], (.int x :: stk), h)) (by decide +kernel) rfl rfl
theorem s40_2 {sc : Scr} {l0 l1 l2 : Value} {a0 : Int32}  {x : Nat} {h : AHp} {post : Option Value → AHp → Prop} (ho : isO h x 3) : Ev sc 40 2 [l0, l1, l2] [.int a0, .ref x] h post = Call 28 [.ref x, .int a0] h (fun rv h2 => Ev sc 40 5 [l0, l1, l2] (rv.toList ++ []) h2 post) := e_v (i := 113) (z := 28) (r2 := 0) (as := [.int a0]) (rest := []) (by decide +kernel) rfl rfl (Nat.le_of_ble_eq_true rfl) rfl ho
theorem s40_5 {sc : Scr} {l0 l1 l2 : Value} {x : Int32} {stk : List Value} {h : AHp} {post : Option Value → AHp → Prop} : Ev sc 40 5 [l0, l1, l2] (.int x :: stk) h post = (if x = 0 then Ev sc 40 19 [l0, l1, l2] stk h post else Ev sc 40 8 [l0, l1, l2] stk h post) := e_if_eq (o := 14) (r1 := 0) (r2 := 0) 19 (by decide +kernel) rfl
theorem s40_8 {sc : Scr} {l0 l1 : Value} {x : Int32} {stk : List Value} {h : AHp} {post : Option Value → AHp → Prop} : Ev sc 40 8 [l0, l1, .int x] stk h post = Ev sc 40 9 [l0, l1, .int x] (.int x :: stk) h post := e_1 (e := (8, .iload_n 2, 0, 0)) (q := (9, [l0, l1, .int x], (.int x :: stk), h)) (by decide +kernel) rfl rfl
theorem s40_9 {sc : Scr} {l0 l1 l2 : Value}  {stk : List Value} {h : AHp} {post : Option Value → AHp → Prop} : Ev sc 40 9 [l0, l1, l2] stk h post = Ev sc 40 10 [l0, l1, l2] (.int (1) :: stk) h post := e_1 (e := (9, .iconst 1, 0, 0)) (q := (10, [l0, l1, l2], (.int (1) :: stk), h)) (by decide +kernel) rfl rfl
theorem s40_10 {sc : Scr} {l0 l1 l2 : Value}  {stk : List Value} {h : AHp} {post : Option Value → AHp → Prop} : Ev sc 40 10 [l0, l1, l2] stk h post = Ev sc 40 13 [l0, l1, l2] (.int (999) :: stk) h post := e_1 (e := (10, .sipush 999, 0, 0)) (q := (13, [l0, l1, l2], (.int (999) :: stk), h)) (by decide +kernel) rfl rfl
theorem s40_13 {sc : Scr} {l0 l1 l2 : Value} {a0 : Int32} {a1 : Int32} {a2 : Int32}  {h : AHp} {post : Option Value → AHp → Prop} : Ev sc 40 13 [l0, l1, l2] [.int a0, .int a1, .int a2] h post = Call 85 [.int a2, .int a1, .int a0] h (fun rv h2 => Ev sc 40 16 [l0, l1, l2] (rv.toList ++ []) h2 post) := e_s (i := 67) (z := 85) (r2 := 1) (as := [.int a2, .int a1, .int a0]) (rest := []) (by decide +kernel) rfl rfl rfl (Nat.le_of_ble_eq_true rfl) rfl
theorem s40_16 {sc : Scr} {l0 l1 l2 : Value} {x : Int32} {stk : List Value} {h : AHp} {post : Option Value → AHp → Prop} : Ev sc 40 16 [l0, l1, l2] (.int x :: stk) h post = (if ¬ x = 0 then Ev sc 40 22 [l0, l1, l2] stk h post else Ev sc 40 19 [l0, l1, l2] stk h post) := e_if_ne (o := 6) (r1 := 0) (r2 := 0) 22 (by decide +kernel) rfl
theorem s40_19 {sc : Scr} {l0 l1 l2 : Value}  {stk : List Value} {h : AHp} {post : Option Value → AHp → Prop} : Ev sc 40 19 [l0, l1, l2] stk h post = Ev sc 40 21 [l0, l1, l2] (.int (-2000000001) :: stk) h post := e_1 (e := (19, .ldc 107, 0, -2000000001)) (q := (21, [l0, l1, l2], (.int (-2000000001) :: stk), h)) (by decide +kernel) rfl rfl
theorem s40_21 {sc : Scr} {l0 l1 l2 : Value} {x : Int32} {h : AHp} {post : Option Value → AHp → Prop} : Ev sc 40 21 [l0, l1, l2] [.int x] h post = post (some (.int x)) h := e_r (e := (21, .ireturn, 0, 0)) (by decide +kernel) rfl rfl
theorem s40_22 {sc : Scr} {l1 l2 : Value} {x : Nat} {stk : List Value} {h : AHp} {post : Option Value → AHp → Prop} : Ev sc 40 22 [.ref x, l1, l2] stk h post = Ev sc 40 23 [.ref x, l1, l2] (.ref x :: stk) h post := e_1 (e := (22, .aload_n 0, 0, 0)) (q := (23, [.ref x, l1, l2], (.ref x :: stk), h)) (by decide +kernel) rfl rfl
theorem s40_23 {sc : Scr} {l0 l2 : Value} {x : Int32} {stk : List Value} {h : AHp} {post : Option Value → AHp → Prop} : Ev sc 40 23 [l0, .int x, l2] stk h post = Ev sc 40 24 [l0, .int x, l2] (.int x :: stk) h post := e_1 (e := (23, .iload_n 1, 0, 0)) (q := (24, [l0, .int x, l2], (.int x :: stk), h)) (by decide +kernel) rfl rfl
theorem s40_24 {sc : Scr} {l0 l1 l2 : Value} {a0 : Int32}  {x : Nat} {h : AHp} {post : Option Value → AHp → Prop} (ho : isO h x 3) : Ev sc 40 24 [l0, l1, l2] [.int a0, .ref x] h post = Call 29 [.ref x, .int a0] h (fun rv h2 => Ev sc 40 27 [l0, l1, l2] (rv.toList ++ []) h2 post) := e_v (i := 77) (z := 29) (r2 := 0) (as := [.int a0]) (rest := []) (by decide +kernel) rfl rfl (Nat.le_of_ble_eq_true rfl) rfl ho
theorem s40_27 {sc : Scr} {l0 l1 l2 : Value} {x : Int32} {stk : List Value} {h : AHp} {post : Option Value → AHp → Prop} : Ev sc 40 27 [l0, l1, l2] (.int x :: stk) h post = (if x = 0 then Ev sc 40 33 [l0, l1, l2] stk h post else Ev sc 40 30 [l0, l1, l2] stk h post) := e_if_eq (o := 6) (r1 := 0) (r2 := 0) 33 (by decide +kernel) rfl
theorem s40_30 {sc : Scr} {l0 l1 l2 : Value}  {stk : List Value} {h : AHp} {post : Option Value → AHp → Prop} : Ev sc 40 30 [l0, l1, l2] stk h post = Ev sc 40 32 [l0, l1, l2] (.int (-2000000002) :: stk) h post := e_1 (e := (30, .ldc 116, 0, -2000000002)) (q := (32, [l0, l1, l2], (.int (-2000000002) :: stk), h)) (by decide +kernel) rfl rfl
theorem s40_32 {sc : Scr} {l0 l1 l2 : Value} {x : Int32} {h : AHp} {post : Option Value → AHp → Prop} : Ev sc 40 32 [l0, l1, l2] [.int x] h post = post (some (.int x)) h := e_r (e := (32, .ireturn, 0, 0)) (by decide +kernel) rfl rfl
theorem s40_33 {sc : Scr} {l1 l2 : Value} {x : Nat} {stk : List Value} {h : AHp} {post : Option Value → AHp → Prop} : Ev sc 40 33 [.ref x, l1, l2] stk h post = Ev sc 40 34 [.ref x, l1, l2] (.ref x :: stk) h post := e_1 (e := (33, .aload_n 0, 0, 0)) (q := (34, [.ref x, l1, l2], (.ref x :: stk), h)) (by decide +kernel) rfl rfl
theorem s40_34 {sc : Scr} {l0 l2 : Value} {x : Int32} {stk : List Value} {h : AHp} {post : Option Value → AHp → Prop} : Ev sc 40 34 [l0, .int x, l2] stk h post = Ev sc 40 35 [l0, .int x, l2] (.int x :: stk) h post := e_1 (e := (34, .iload_n 1, 0, 0)) (q := (35, [l0, .int x, l2], (.int x :: stk), h)) (by decide +kernel) rfl rfl
theorem s40_35 {sc : Scr} {l0 l1 l2 : Value} {a0 : Int32}  {x : Nat} {h : AHp} {post : Option Value → AHp → Prop} (ho : isO h x 3) : Ev sc 40 35 [l0, l1, l2] [.int a0, .ref x] h post = Call 32 [.ref x, .int a0] h (fun rv h2 => Ev sc 40 38 [l0, l1, l2] (rv.toList ++ []) h2 post) := e_v (i := 81) (z := 32) (r2 := 0) (as := [.int a0]) (rest := []) (by decide +kernel) rfl rfl (Nat.le_of_ble_eq_true rfl) rfl ho
theorem s40_38 {sc : Scr} {l0 l2 : Value} {x : Int32} {stk : List Value} {h : AHp} {post : Option Value → AHp → Prop} : Ev sc 40 38 [l0, .int x, l2] stk h post = Ev sc 40 39 [l0, .int x, l2] (.int x :: stk) h post := e_1 (e := (38, .iload_n 1, 0, 0)) (q := (39, [l0, .int x, l2], (.int x :: stk), h)) (by decide +kernel) rfl rfl
theorem s40_39 {sc : Scr} {l0 l1 : Value} {x : Int32} {stk : List Value} {h : AHp} {post : Option Value → AHp → Prop} : Ev sc 40 39 [l0, l1, .int x] stk h post = Ev sc 40 40 [l0, l1, .int x] (.int x :: stk) h post := e_1 (e := (39, .iload_n 2, 0, 0)) (q := (40, [l0, l1, .int x], (.int x :: stk), h)) (by decide +kernel) rfl rfl
theorem s40_40 {sc : Scr} {l0 l1 l2 : Value}  {stk : List Value} {h : AHp} {post : Option Value → AHp → Prop} : Ev sc 40 40 [l0, l1, l2] stk h post = Ev sc 40 41 [l0, l1, l2] (.int (0) :: stk) h post := e_1 (e := (40, .iconst 0, 0, 0)) (q := (41, [l0, l1, l2], (.int (0) :: stk), h)) (by decide +kernel) rfl rfl
theorem s40_41 {sc : Scr} {l0 l1 l2 : Value} {a0 : Int32} {a1 : Int32} {a2 : Int32}  {x : Nat} {h : AHp} {post : Option Value → AHp → Prop} (ho : isO h x 0) : Ev sc 40 41 [l0, l1, l2] [.int a0, .int a1, .int a2, .ref x] h post = Call 6 [.ref x, .int a2, .int a1, .int a0] h (fun rv h2 => Ev sc 40 44 [l0, l1, l2] (rv.toList ++ []) h2 post) := e_v (i := 109) (z := 6) (r2 := 0) (as := [.int a2, .int a1, .int a0]) (rest := []) (by decide +kernel) rfl rfl (Nat.le_of_ble_eq_true rfl) rfl ho
theorem s40_44 {sc : Scr} {l1 l2 : Value} {x : Nat} {stk : List Value} {h : AHp} {post : Option Value → AHp → Prop} : Ev sc 40 44 [.ref x, l1, l2] stk h post = Ev sc 40 45 [.ref x, l1, l2] (.ref x :: stk) h post := e_1 (e := (44, .aload_n 0, 0, 0)) (q := (45, [.ref x, l1, l2], (.ref x :: stk), h)) (by decide +kernel) rfl rfl
theorem s40_45 {sc : Scr} {l0 l2 : Value} {x : Int32} {stk : List Value} {h : AHp} {post : Option Value → AHp → Prop} : Ev sc 40 45 [l0, .int x, l2] stk h post = Ev sc 40 46 [l0, .int x, l2] (.int x :: stk) h post := e_1 (e := (45, .iload_n 1, 0, 0)) (q := (46, [l0, .int x, l2], (.int x :: stk), h)) (by decide +kernel) rfl rfl
theorem s40_46 {sc : Scr} {l0 l1 l2 : Value} {a0 : Int32}  {x : Nat} {h : AHp} {post : Option Value → AHp → Prop} (ho : isO h x 3) : Ev sc 40 46 [l0, l1, l2] [.int a0, .ref x] h post = Call 32 [.ref x, .int a0] h (fun rv h2 => Ev sc 40 49 [l0, l1, l2] (rv.toList ++ []) h2 post) := e_v (i := 81) (z := 32) (r2 := 0) (as := [.int a0]) (rest := []) (by decide +kernel) rfl rfl (Nat.le_of_ble_eq_true rfl) rfl ho
theorem s40_49 {sc : Scr} {l0 l1 l2 : Value}   {x : Nat} {h : AHp} {post : Option Value → AHp → Prop} (ho : isO h x 0) : Ev sc 40 49 [l0, l1, l2] [.ref x] h post = Call 12 [.ref x] h (fun rv h2 => Ev sc 40 52 [l0, l1, l2] (rv.toList ++ []) h2 post) := e_v (i := 117) (z := 12) (r2 := 0) (as := []) (rest := []) (by decide +kernel) rfl rfl (Nat.le_of_ble_eq_true rfl) rfl ho
theorem s40_52 {sc : Scr} {l0 l1 l2 : Value} {x : Int32} {h : AHp} {post : Option Value → AHp → Prop} : Ev sc 40 52 [l0, l1, l2] [.int x] h post = post (some (.int x)) h := e_r (e := (52, .ireturn, 0, 0)) (by decide +kernel) rfl rfl
-- 41 X3_takeAmount (II)I
theorem s41_e {a0 : Nat} {a1 : Int32} {a2 : Int32} {h : AHp} {post : Option Value → AHp → Prop} : Call 41 [.ref a0, .int a1, .int a2] h post = Ev none 41 0 [.ref a0, .int a1, .int a2] [] h post := rfl
theorem s41_0 {sc : Scr} {l1 l2 : Value} {x : Nat} {stk : List Value} {h : AHp} {post : Option Value → AHp → Prop} : Ev sc 41 0 [.ref x, l1, l2] stk h post = Ev sc 41 1 [.ref x, l1, l2] (.ref x :: stk) h post := e_1 (e := (0, .aload_n 0, 0, 0)) (q := (1, [.ref x, l1, l2], (.ref x :: stk), h)) (by decide +kernel) rfl rfl
theorem s41_1 {sc : Scr} {l0 l2 : Value} {x : Int32} {stk : List Value} {h : AHp} {post : Option Value → AHp → Prop} : Ev sc 41 1 [l0, .int x, l2] stk h post = Ev sc 41 2 [l0, .int x, l2] (.int x :: stk) h post := e_1 (e := (1, .iload_n 1, 0, 0)) (q := (2, [l0, .int x, l2], (.int x :: stk), h)) (by decide +kernel) rfl rfl
theorem s41_2 {sc : Scr} {l0 l1 l2 : Value} {a0 : Int32}  {x : Nat} {h : AHp} {post : Option Value → AHp → Prop} (ho : isO h x 3) : Ev sc 41 2 [l0, l1, l2] [.int a0, .ref x] h post = Call 28 [.ref x, .int a0] h (fun rv h2 => Ev sc 41 5 [l0, l1, l2] (rv.toList ++ []) h2 post) := e_v (i := 113) (z := 28) (r2 := 0) (as := [.int a0]) (rest := []) (by decide +kernel) rfl rfl (Nat.le_of_ble_eq_true rfl) rfl ho
theorem s41_5 {sc : Scr} {l0 l1 l2 : Value} {x : Int32} {stk : List Value} {h : AHp} {post : Option Value → AHp → Prop} : Ev sc 41 5 [l0, l1, l2] (.int x :: stk) h post = (if x = 0 then Ev sc 41 19 [l0, l1, l2] stk h post else Ev sc 41 8 [l0, l1, l2] stk h post) := e_if_eq (o := 14) (r1 := 0) (r2 := 0) 19 (by decide +kernel) rfl
theorem s41_8 {sc : Scr} {l0 l1 : Value} {x : Int32} {stk : List Value} {h : AHp} {post : Option Value → AHp → Prop} : Ev sc 41 8 [l0, l1, .int x] stk h post = Ev sc 41 9 [l0, l1, .int x] (.int x :: stk) h post := e_1 (e := (8, .iload_n 2, 0, 0)) (q := (9, [l0, l1, .int x], (.int x :: stk), h)) (by decide +kernel) rfl rfl
theorem s41_9 {sc : Scr} {l0 l1 l2 : Value}  {stk : List Value} {h : AHp} {post : Option Value → AHp → Prop} : Ev sc 41 9 [l0, l1, l2] stk h post = Ev sc 41 10 [l0, l1, l2] (.int (1) :: stk) h post := e_1 (e := (9, .iconst 1, 0, 0)) (q := (10, [l0, l1, l2], (.int (1) :: stk), h)) (by decide +kernel) rfl rfl
theorem s41_10 {sc : Scr} {l0 l1 l2 : Value}  {stk : List Value} {h : AHp} {post : Option Value → AHp → Prop} : Ev sc 41 10 [l0, l1, l2] stk h post = Ev sc 41 13 [l0, l1, l2] (.int (999) :: stk) h post := e_1 (e := (10, .sipush 999, 0, 0)) (q := (13, [l0, l1, l2], (.int (999) :: stk), h)) (by decide +kernel) rfl rfl
theorem s41_13 {sc : Scr} {l0 l1 l2 : Value} {a0 : Int32} {a1 : Int32} {a2 : Int32}  {h : AHp} {post : Option Value → AHp → Prop} : Ev sc 41 13 [l0, l1, l2] [.int a0, .int a1, .int a2] h post = Call 85 [.int a2, .int a1, .int a0] h (fun rv h2 => Ev sc 41 16 [l0, l1, l2] (rv.toList ++ []) h2 post) := e_s (i := 67) (z := 85) (r2 := 1) (as := [.int a2, .int a1, .int a0]) (rest := []) (by decide +kernel) rfl rfl rfl (Nat.le_of_ble_eq_true rfl) rfl
theorem s41_16 {sc : Scr} {l0 l1 l2 : Value} {x : Int32} {stk : List Value} {h : AHp} {post : Option Value → AHp → Prop} : Ev sc 41 16 [l0, l1, l2] (.int x :: stk) h post = (if ¬ x = 0 then Ev sc 41 22 [l0, l1, l2] stk h post else Ev sc 41 19 [l0, l1, l2] stk h post) := e_if_ne (o := 6) (r1 := 0) (r2 := 0) 22 (by decide +kernel) rfl
theorem s41_19 {sc : Scr} {l0 l1 l2 : Value}  {stk : List Value} {h : AHp} {post : Option Value → AHp → Prop} : Ev sc 41 19 [l0, l1, l2] stk h post = Ev sc 41 21 [l0, l1, l2] (.int (-2000000001) :: stk) h post := e_1 (e := (19, .ldc 107, 0, -2000000001)) (q := (21, [l0, l1, l2], (.int (-2000000001) :: stk), h)) (by decide +kernel) rfl rfl
theorem s41_21 {sc : Scr} {l0 l1 l2 : Value} {x : Int32} {h : AHp} {post : Option Value → AHp → Prop} : Ev sc 41 21 [l0, l1, l2] [.int x] h post = post (some (.int x)) h := e_r (e := (21, .ireturn, 0, 0)) (by decide +kernel) rfl rfl
theorem s41_22 {sc : Scr} {l1 l2 : Value} {x : Nat} {stk : List Value} {h : AHp} {post : Option Value → AHp → Prop} : Ev sc 41 22 [.ref x, l1, l2] stk h post = Ev sc 41 23 [.ref x, l1, l2] (.ref x :: stk) h post := e_1 (e := (22, .aload_n 0, 0, 0)) (q := (23, [.ref x, l1, l2], (.ref x :: stk), h)) (by decide +kernel) rfl rfl
theorem s41_23 {sc : Scr} {l0 l2 : Value} {x : Int32} {stk : List Value} {h : AHp} {post : Option Value → AHp → Prop} : Ev sc 41 23 [l0, .int x, l2] stk h post = Ev sc 41 24 [l0, .int x, l2] (.int x :: stk) h post := e_1 (e := (23, .iload_n 1, 0, 0)) (q := (24, [l0, .int x, l2], (.int x :: stk), h)) (by decide +kernel) rfl rfl
theorem s41_24 {sc : Scr} {l0 l1 l2 : Value} {a0 : Int32}  {x : Nat} {h : AHp} {post : Option Value → AHp → Prop} (ho : isO h x 3) : Ev sc 41 24 [l0, l1, l2] [.int a0, .ref x] h post = Call 29 [.ref x, .int a0] h (fun rv h2 => Ev sc 41 27 [l0, l1, l2] (rv.toList ++ []) h2 post) := e_v (i := 77) (z := 29) (r2 := 0) (as := [.int a0]) (rest := []) (by decide +kernel) rfl rfl (Nat.le_of_ble_eq_true rfl) rfl ho
theorem s41_27 {sc : Scr} {l0 l1 l2 : Value} {x : Int32} {stk : List Value} {h : AHp} {post : Option Value → AHp → Prop} : Ev sc 41 27 [l0, l1, l2] (.int x :: stk) h post = (if ¬ x = 0 then Ev sc 41 42 [l0, l1, l2] stk h post else Ev sc 41 30 [l0, l1, l2] stk h post) := e_if_ne (o := 15) (r1 := 0) (r2 := 0) 42 (by decide +kernel) rfl
theorem s41_30 {sc : Scr} {l1 l2 : Value} {x : Nat} {stk : List Value} {h : AHp} {post : Option Value → AHp → Prop} : Ev sc 41 30 [.ref x, l1, l2] stk h post = Ev sc 41 31 [.ref x, l1, l2] (.ref x :: stk) h post := e_1 (e := (30, .aload_n 0, 0, 0)) (q := (31, [.ref x, l1, l2], (.ref x :: stk), h)) (by decide +kernel) rfl rfl
theorem s41_31 {sc : Scr} {l0 l2 : Value} {x : Int32} {stk : List Value} {h : AHp} {post : Option Value → AHp → Prop} : Ev sc 41 31 [l0, .int x, l2] stk h post = Ev sc 41 32 [l0, .int x, l2] (.int x :: stk) h post := e_1 (e := (31, .iload_n 1, 0, 0)) (q := (32, [l0, .int x, l2], (.int x :: stk), h)) (by decide +kernel) rfl rfl
theorem s41_32 {sc : Scr} {l0 l1 l2 : Value} {a0 : Int32}  {x : Nat} {h : AHp} {post : Option Value → AHp → Prop} (ho : isO h x 3) : Ev sc 41 32 [l0, l1, l2] [.int a0, .ref x] h post = Call 32 [.ref x, .int a0] h (fun rv h2 => Ev sc 41 35 [l0, l1, l2] (rv.toList ++ []) h2 post) := e_v (i := 81) (z := 32) (r2 := 0) (as := [.int a0]) (rest := []) (by decide +kernel) rfl rfl (Nat.le_of_ble_eq_true rfl) rfl ho
theorem s41_35 {sc : Scr} {l0 l1 l2 : Value}   {x : Nat} {h : AHp} {post : Option Value → AHp → Prop} (ho : isO h x 0) : Ev sc 41 35 [l0, l1, l2] [.ref x] h post = Call 12 [.ref x] h (fun rv h2 => Ev sc 41 38 [l0, l1, l2] (rv.toList ++ []) h2 post) := e_v (i := 117) (z := 12) (r2 := 0) (as := []) (rest := []) (by decide +kernel) rfl rfl (Nat.le_of_ble_eq_true rfl) rfl ho
theorem s41_38 {sc : Scr} {l0 l1 : Value} {x : Int32} {stk : List Value} {h : AHp} {post : Option Value → AHp → Prop} : Ev sc 41 38 [l0, l1, .int x] stk h post = Ev sc 41 39 [l0, l1, .int x] (.int x :: stk) h post := e_1 (e := (38, .iload_n 2, 0, 0)) (q := (39, [l0, l1, .int x], (.int x :: stk), h)) (by decide +kernel) rfl rfl
theorem s41_39 {sc : Scr} {l0 l1 l2 : Value} {x z : Int32} {stk : List Value} {h : AHp} {post : Option Value → AHp → Prop} : Ev sc 41 39 [l0, l1, l2] (.int z :: .int x :: stk) h post = (if z ≤ x then Ev sc 41 45 [l0, l1, l2] stk h post else Ev sc 41 42 [l0, l1, l2] stk h post) := e_icmp_ge (o := 6) (r1 := 0) (r2 := 0) 45 (by decide +kernel) rfl
theorem s41_42 {sc : Scr} {l0 l1 l2 : Value}  {stk : List Value} {h : AHp} {post : Option Value → AHp → Prop} : Ev sc 41 42 [l0, l1, l2] stk h post = Ev sc 41 44 [l0, l1, l2] (.int (-2000000002) :: stk) h post := e_1 (e := (42, .ldc 116, 0, -2000000002)) (q := (44, [l0, l1, l2], (.int (-2000000002) :: stk), h)) (by decide +kernel) rfl rfl
theorem s41_44 {sc : Scr} {l0 l1 l2 : Value} {x : Int32} {h : AHp} {post : Option Value → AHp → Prop} : Ev sc 41 44 [l0, l1, l2] [.int x] h post = post (some (.int x)) h := e_r (e := (44, .ireturn, 0, 0)) (by decide +kernel) rfl rfl
theorem s41_45 {sc : Scr} {l1 l2 : Value} {x : Nat} {stk : List Value} {h : AHp} {post : Option Value → AHp → Prop} : Ev sc 41 45 [.ref x, l1, l2] stk h post = Ev sc 41 46 [.ref x, l1, l2] (.ref x :: stk) h post := e_1 (e := (45, .aload_n 0, 0, 0)) (q := (46, [.ref x, l1, l2], (.ref x :: stk), h)) (by decide +kernel) rfl rfl
theorem s41_46 {sc : Scr} {l0 l2 : Value} {x : Int32} {stk : List Value} {h : AHp} {post : Option Value → AHp → Prop} : Ev sc 41 46 [l0, .int x, l2] stk h post = Ev sc 41 47 [l0, .int x, l2] (.int x :: stk) h post := e_1 (e := (46, .iload_n 1, 0, 0)) (q := (47, [l0, .int x, l2], (.int x :: stk), h)) (by decide +kernel) rfl rfl
theorem s41_47 {sc : Scr} {l0 l1 l2 : Value} {a0 : Int32}  {x : Nat} {h : AHp} {post : Option Value → AHp → Prop} (ho : isO h x 3) : Ev sc 41 47 [l0, l1, l2] [.int a0, .ref x] h post = Call 32 [.ref x, .int a0] h (fun rv h2 => Ev sc 41 50 [l0, l1, l2] (rv.toList ++ []) h2 post) := e_v (i := 81) (z := 32) (r2 := 0) (as := [.int a0]) (rest := []) (by decide +kernel) rfl rfl (Nat.le_of_ble_eq_true rfl) rfl ho
theorem s41_50 {sc : Scr} {l0 l2 : Value} {x : Int32} {stk : List Value} {h : AHp} {post : Option Value → AHp → Prop} : Ev sc 41 50 [l0, .int x, l2] stk h post = Ev sc 41 51 [l0, .int x, l2] (.int x :: stk) h post := e_1 (e := (50, .iload_n 1, 0, 0)) (q := (51, [l0, .int x, l2], (.int x :: stk), h)) (by decide +kernel) rfl rfl
theorem s41_51 {sc : Scr} {l0 l1 l2 : Value}  {stk : List Value} {h : AHp} {post : Option Value → AHp → Prop} : Ev sc 41 51 [l0, l1, l2] stk h post = Ev sc 41 52 [l0, l1, l2] (.int (0) :: stk) h post := e_1 (e := (51, .iconst 0, 0, 0)) (q := (52, [l0, l1, l2], (.int (0) :: stk), h)) (by decide +kernel) rfl rfl
theorem s41_52 {sc : Scr} {l0 l1 : Value} {x : Int32} {stk : List Value} {h : AHp} {post : Option Value → AHp → Prop} : Ev sc 41 52 [l0, l1, .int x] stk h post = Ev sc 41 53 [l0, l1, .int x] (.int x :: stk) h post := e_1 (e := (52, .iload_n 2, 0, 0)) (q := (53, [l0, l1, .int x], (.int x :: stk), h)) (by decide +kernel) rfl rfl
theorem s41_53 {sc : Scr} {l0 l1 l2 : Value} {a0 : Int32} {a1 : Int32} {a2 : Int32}  {x : Nat} {h : AHp} {post : Option Value → AHp → Prop} (ho : isO h x 0) : Ev sc 41 53 [l0, l1, l2] [.int a0, .int a1, .int a2, .ref x] h post = Call 6 [.ref x, .int a2, .int a1, .int a0] h (fun rv h2 => Ev sc 41 56 [l0, l1, l2] (rv.toList ++ []) h2 post) := e_v (i := 109) (z := 6) (r2 := 0) (as := [.int a2, .int a1, .int a0]) (rest := []) (by decide +kernel) rfl rfl (Nat.le_of_ble_eq_true rfl) rfl ho
theorem s41_56 {sc : Scr} {l1 l2 : Value} {x : Nat} {stk : List Value} {h : AHp} {post : Option Value → AHp → Prop} : Ev sc 41 56 [.ref x, l1, l2] stk h post = Ev sc 41 57 [.ref x, l1, l2] (.ref x :: stk) h post := e_1 (e := (56, .aload_n 0, 0, 0)) (q := (57, [.ref x, l1, l2], (.ref x :: stk), h)) (by decide +kernel) rfl rfl
theorem s41_57 {sc : Scr} {l0 l2 : Value} {x : Int32} {stk : List Value} {h : AHp} {post : Option Value → AHp → Prop} : Ev sc 41 57 [l0, .int x, l2] stk h post = Ev sc 41 58 [l0, .int x, l2] (.int x :: stk) h post := e_1 (e := (57, .iload_n 1, 0, 0)) (q := (58, [l0, .int x, l2], (.int x :: stk), h)) (by decide +kernel) rfl rfl
theorem s41_58 {sc : Scr} {l0 l1 l2 : Value} {a0 : Int32}  {x : Nat} {h : AHp} {post : Option Value → AHp → Prop} (ho : isO h x 3) : Ev sc 41 58 [l0, l1, l2] [.int a0, .ref x] h post = Call 32 [.ref x, .int a0] h (fun rv h2 => Ev sc 41 61 [l0, l1, l2] (rv.toList ++ []) h2 post) := e_v (i := 81) (z := 32) (r2 := 0) (as := [.int a0]) (rest := []) (by decide +kernel) rfl rfl (Nat.le_of_ble_eq_true rfl) rfl ho
theorem s41_61 {sc : Scr} {l0 l1 l2 : Value}   {x : Nat} {h : AHp} {post : Option Value → AHp → Prop} (ho : isO h x 0) : Ev sc 41 61 [l0, l1, l2] [.ref x] h post = Call 12 [.ref x] h (fun rv h2 => Ev sc 41 64 [l0, l1, l2] (rv.toList ++ []) h2 post) := e_v (i := 117) (z := 12) (r2 := 0) (as := []) (rest := []) (by decide +kernel) rfl rfl (Nat.le_of_ble_eq_true rfl) rfl ho
theorem s41_64 {sc : Scr} {l0 l1 l2 : Value} {x : Int32} {h : AHp} {post : Option Value → AHp → Prop} : Ev sc 41 64 [l0, l1, l2] [.int x] h post = post (some (.int x)) h := e_r (e := (64, .ireturn, 0, 0)) (by decide +kernel) rfl rfl
-- 42 X3_retireWriter (II)I
theorem s42_e {a0 : Nat} {a1 : Int32} {a2 : Int32} {h : AHp} {post : Option Value → AHp → Prop} : Call 42 [.ref a0, .int a1, .int a2] h post = Ev none 42 0 [.ref a0, .int a1, .int a2] [] h post := rfl
theorem s42_0 {sc : Scr} {l1 l2 : Value} {x : Nat} {stk : List Value} {h : AHp} {post : Option Value → AHp → Prop} : Ev sc 42 0 [.ref x, l1, l2] stk h post = Ev sc 42 1 [.ref x, l1, l2] (.ref x :: stk) h post := e_1 (e := (0, .aload_n 0, 0, 0)) (q := (1, [.ref x, l1, l2], (.ref x :: stk), h)) (by decide +kernel) rfl rfl
theorem s42_1 {sc : Scr} {l0 l2 : Value} {x : Int32} {stk : List Value} {h : AHp} {post : Option Value → AHp → Prop} : Ev sc 42 1 [l0, .int x, l2] stk h post = Ev sc 42 2 [l0, .int x, l2] (.int x :: stk) h post := e_1 (e := (1, .iload_n 1, 0, 0)) (q := (2, [l0, .int x, l2], (.int x :: stk), h)) (by decide +kernel) rfl rfl
theorem s42_2 {sc : Scr} {l0 l1 l2 : Value} {a0 : Int32}  {x : Nat} {h : AHp} {post : Option Value → AHp → Prop} (ho : isO h x 3) : Ev sc 42 2 [l0, l1, l2] [.int a0, .ref x] h post = Call 28 [.ref x, .int a0] h (fun rv h2 => Ev sc 42 5 [l0, l1, l2] (rv.toList ++ []) h2 post) := e_v (i := 113) (z := 28) (r2 := 0) (as := [.int a0]) (rest := []) (by decide +kernel) rfl rfl (Nat.le_of_ble_eq_true rfl) rfl ho
theorem s42_5 {sc : Scr} {l0 l1 l2 : Value} {x : Int32} {stk : List Value} {h : AHp} {post : Option Value → AHp → Prop} : Ev sc 42 5 [l0, l1, l2] (.int x :: stk) h post = (if x = 0 then Ev sc 42 21 [l0, l1, l2] stk h post else Ev sc 42 8 [l0, l1, l2] stk h post) := e_if_eq (o := 16) (r1 := 0) (r2 := 0) 21 (by decide +kernel) rfl
theorem s42_8 {sc : Scr} {l1 l2 : Value} {x : Nat} {stk : List Value} {h : AHp} {post : Option Value → AHp → Prop} : Ev sc 42 8 [.ref x, l1, l2] stk h post = Ev sc 42 9 [.ref x, l1, l2] (.ref x :: stk) h post := e_1 (e := (8, .aload_n 0, 0, 0)) (q := (9, [.ref x, l1, l2], (.ref x :: stk), h)) (by decide +kernel) rfl rfl
theorem s42_9 {sc : Scr} {l0 l1 : Value} {x : Int32} {stk : List Value} {h : AHp} {post : Option Value → AHp → Prop} : Ev sc 42 9 [l0, l1, .int x] stk h post = Ev sc 42 10 [l0, l1, .int x] (.int x :: stk) h post := e_1 (e := (9, .iload_n 2, 0, 0)) (q := (10, [l0, l1, .int x], (.int x :: stk), h)) (by decide +kernel) rfl rfl
theorem s42_10 {sc : Scr} {l0 l1 l2 : Value} {a0 : Int32}  {x : Nat} {h : AHp} {post : Option Value → AHp → Prop} (ho : isO h x 3) : Ev sc 42 10 [l0, l1, l2] [.int a0, .ref x] h post = Call 28 [.ref x, .int a0] h (fun rv h2 => Ev sc 42 13 [l0, l1, l2] (rv.toList ++ []) h2 post) := e_v (i := 113) (z := 28) (r2 := 0) (as := [.int a0]) (rest := []) (by decide +kernel) rfl rfl (Nat.le_of_ble_eq_true rfl) rfl ho
theorem s42_13 {sc : Scr} {l0 l1 l2 : Value} {x : Int32} {stk : List Value} {h : AHp} {post : Option Value → AHp → Prop} : Ev sc 42 13 [l0, l1, l2] (.int x :: stk) h post = (if x = 0 then Ev sc 42 21 [l0, l1, l2] stk h post else Ev sc 42 16 [l0, l1, l2] stk h post) := e_if_eq (o := 8) (r1 := 0) (r2 := 0) 21 (by decide +kernel) rfl
theorem s42_16 {sc : Scr} {l0 l2 : Value} {x : Int32} {stk : List Value} {h : AHp} {post : Option Value → AHp → Prop} : Ev sc 42 16 [l0, .int x, l2] stk h post = Ev sc 42 17 [l0, .int x, l2] (.int x :: stk) h post := e_1 (e := (16, .iload_n 1, 0, 0)) (q := (17, [l0, .int x, l2], (.int x :: stk), h)) (by decide +kernel) rfl rfl
theorem s42_17 {sc : Scr} {l0 l1 : Value} {x : Int32} {stk : List Value} {h : AHp} {post : Option Value → AHp → Prop} : Ev sc 42 17 [l0, l1, .int x] stk h post = Ev sc 42 18 [l0, l1, .int x] (.int x :: stk) h post := e_1 (e := (17, .iload_n 2, 0, 0)) (q := (18, [l0, l1, .int x], (.int x :: stk), h)) (by decide +kernel) rfl rfl
theorem s42_18 {sc : Scr} {l0 l1 l2 : Value} {x z : Int32} {stk : List Value} {h : AHp} {post : Option Value → AHp → Prop} : Ev sc 42 18 [l0, l1, l2] (.int z :: .int x :: stk) h post = (if ¬ x = z then Ev sc 42 24 [l0, l1, l2] stk h post else Ev sc 42 21 [l0, l1, l2] stk h post) := e_icmp_ne (o := 6) (r1 := 0) (r2 := 0) 24 (by decide +kernel) rfl
theorem s42_21 {sc : Scr} {l0 l1 l2 : Value}  {stk : List Value} {h : AHp} {post : Option Value → AHp → Prop} : Ev sc 42 21 [l0, l1, l2] stk h post = Ev sc 42 23 [l0, l1, l2] (.int (-2000000001) :: stk) h post := e_1 (e := (21, .ldc 107, 0, -2000000001)) (q := (23, [l0, l1, l2], (.int (-2000000001) :: stk), h)) (by decide +kernel) rfl rfl
theorem s42_23 {sc : Scr} {l0 l1 l2 : Value} {x : Int32} {h : AHp} {post : Option Value → AHp → Prop} : Ev sc 42 23 [l0, l1, l2] [.int x] h post = post (some (.int x)) h := e_r (e := (23, .ireturn, 0, 0)) (by decide +kernel) rfl rfl
theorem s42_24 {sc : Scr} {l1 l2 : Value} {x : Nat} {stk : List Value} {h : AHp} {post : Option Value → AHp → Prop} : Ev sc 42 24 [.ref x, l1, l2] stk h post = Ev sc 42 25 [.ref x, l1, l2] (.ref x :: stk) h post := e_1 (e := (24, .aload_n 0, 0, 0)) (q := (25, [.ref x, l1, l2], (.ref x :: stk), h)) (by decide +kernel) rfl rfl
theorem s42_25 {sc : Scr} {l0 l2 : Value} {x : Int32} {stk : List Value} {h : AHp} {post : Option Value → AHp → Prop} : Ev sc 42 25 [l0, .int x, l2] stk h post = Ev sc 42 26 [l0, .int x, l2] (.int x :: stk) h post := e_1 (e := (25, .iload_n 1, 0, 0)) (q := (26, [l0, .int x, l2], (.int x :: stk), h)) (by decide +kernel) rfl rfl
theorem s42_26 {sc : Scr} {l0 l1 l2 : Value} {a0 : Int32}  {x : Nat} {h : AHp} {post : Option Value → AHp → Prop} (ho : isO h x 3) : Ev sc 42 26 [l0, l1, l2] [.int a0, .ref x] h post = Call 29 [.ref x, .int a0] h (fun rv h2 => Ev sc 42 29 [l0, l1, l2] (rv.toList ++ []) h2 post) := e_v (i := 77) (z := 29) (r2 := 0) (as := [.int a0]) (rest := []) (by decide +kernel) rfl rfl (Nat.le_of_ble_eq_true rfl) rfl ho
theorem s42_29 {sc : Scr} {l0 l1 l2 : Value} {x : Int32} {stk : List Value} {h : AHp} {post : Option Value → AHp → Prop} : Ev sc 42 29 [l0, l1, l2] (.int x :: stk) h post = (if ¬ x = 0 then Ev sc 42 55 [l0, l1, l2] stk h post else Ev sc 42 32 [l0, l1, l2] stk h post) := e_if_ne (o := 26) (r1 := 0) (r2 := 0) 55 (by decide +kernel) rfl
theorem s42_32 {sc : Scr} {l1 l2 : Value} {x : Nat} {stk : List Value} {h : AHp} {post : Option Value → AHp → Prop} : Ev sc 42 32 [.ref x, l1, l2] stk h post = Ev sc 42 33 [.ref x, l1, l2] (.ref x :: stk) h post := e_1 (e := (32, .aload_n 0, 0, 0)) (q := (33, [.ref x, l1, l2], (.ref x :: stk), h)) (by decide +kernel) rfl rfl
theorem s42_33 {sc : Scr} {l0 l1 : Value} {x : Int32} {stk : List Value} {h : AHp} {post : Option Value → AHp → Prop} : Ev sc 42 33 [l0, l1, .int x] stk h post = Ev sc 42 34 [l0, l1, .int x] (.int x :: stk) h post := e_1 (e := (33, .iload_n 2, 0, 0)) (q := (34, [l0, l1, .int x], (.int x :: stk), h)) (by decide +kernel) rfl rfl
theorem s42_34 {sc : Scr} {l0 l1 l2 : Value} {a0 : Int32}  {x : Nat} {h : AHp} {post : Option Value → AHp → Prop} (ho : isO h x 3) : Ev sc 42 34 [l0, l1, l2] [.int a0, .ref x] h post = Call 29 [.ref x, .int a0] h (fun rv h2 => Ev sc 42 37 [l0, l1, l2] (rv.toList ++ []) h2 post) := e_v (i := 77) (z := 29) (r2 := 0) (as := [.int a0]) (rest := []) (by decide +kernel) rfl rfl (Nat.le_of_ble_eq_true rfl) rfl ho
theorem s42_37 {sc : Scr} {l0 l1 l2 : Value} {x : Int32} {stk : List Value} {h : AHp} {post : Option Value → AHp → Prop} : Ev sc 42 37 [l0, l1, l2] (.int x :: stk) h post = (if ¬ x = 0 then Ev sc 42 55 [l0, l1, l2] stk h post else Ev sc 42 40 [l0, l1, l2] stk h post) := e_if_ne (o := 18) (r1 := 0) (r2 := 0) 55 (by decide +kernel) rfl
theorem s42_40 {sc : Scr} {l1 l2 : Value} {x : Nat} {stk : List Value} {h : AHp} {post : Option Value → AHp → Prop} : Ev sc 42 40 [.ref x, l1, l2] stk h post = Ev sc 42 41 [.ref x, l1, l2] (.ref x :: stk) h post := e_1 (e := (40, .aload_n 0, 0, 0)) (q := (41, [.ref x, l1, l2], (.ref x :: stk), h)) (by decide +kernel) rfl rfl
theorem s42_41 {sc : Scr} {l0 l1 l2 : Value} {x : Nat} {stk : List Value} {h : AHp} {post : Option Value → AHp → Prop} : Ev sc 42 41 [l0, l1, l2] (.ref x :: stk) h post = oB (fldv h x 3 2) (fun v => Ev sc 42 44 [l0, l1, l2] (v :: stk) h post) := e_get (i := 21) (r1 := 3) (r2 := 2) (by decide +kernel)
theorem s42_44 {sc : Scr} {l0 l2 : Value} {x : Int32} {stk : List Value} {h : AHp} {post : Option Value → AHp → Prop} : Ev sc 42 44 [l0, .int x, l2] stk h post = Ev sc 42 45 [l0, .int x, l2] (.int x :: stk) h post := e_1 (e := (44, .iload_n 1, 0, 0)) (q := (45, [l0, .int x, l2], (.int x :: stk), h)) (by decide +kernel) rfl rfl
theorem s42_45 {sc : Scr} {l0 l1 l2 : Value} {x : Nat} {j : Int32} {stk : List Value} {h : AHp} {post : Option Value → AHp → Prop} : Ev sc 42 45 [l0, l1, l2] (.int j :: .ref x :: stk) h post = oB (ldi h x j) (fun v => Ev sc 42 46 [l0, l1, l2] (.int v :: stk) h post) := e_ldi (r1 := 0) (r2 := 0) (by decide +kernel)
theorem s42_46 {sc : Scr} {l1 l2 : Value} {x : Nat} {stk : List Value} {h : AHp} {post : Option Value → AHp → Prop} : Ev sc 42 46 [.ref x, l1, l2] stk h post = Ev sc 42 47 [.ref x, l1, l2] (.ref x :: stk) h post := e_1 (e := (46, .aload_n 0, 0, 0)) (q := (47, [.ref x, l1, l2], (.ref x :: stk), h)) (by decide +kernel) rfl rfl
theorem s42_47 {sc : Scr} {l0 l1 l2 : Value} {x : Nat} {stk : List Value} {h : AHp} {post : Option Value → AHp → Prop} : Ev sc 42 47 [l0, l1, l2] (.ref x :: stk) h post = oB (fldv h x 3 2) (fun v => Ev sc 42 50 [l0, l1, l2] (v :: stk) h post) := e_get (i := 21) (r1 := 3) (r2 := 2) (by decide +kernel)
theorem s42_50 {sc : Scr} {l0 l1 : Value} {x : Int32} {stk : List Value} {h : AHp} {post : Option Value → AHp → Prop} : Ev sc 42 50 [l0, l1, .int x] stk h post = Ev sc 42 51 [l0, l1, .int x] (.int x :: stk) h post := e_1 (e := (50, .iload_n 2, 0, 0)) (q := (51, [l0, l1, .int x], (.int x :: stk), h)) (by decide +kernel) rfl rfl
theorem s42_51 {sc : Scr} {l0 l1 l2 : Value} {x : Nat} {j : Int32} {stk : List Value} {h : AHp} {post : Option Value → AHp → Prop} : Ev sc 42 51 [l0, l1, l2] (.int j :: .ref x :: stk) h post = oB (ldi h x j) (fun v => Ev sc 42 52 [l0, l1, l2] (.int v :: stk) h post) := e_ldi (r1 := 0) (r2 := 0) (by decide +kernel)
theorem s42_52 {sc : Scr} {l0 l1 l2 : Value} {x z : Int32} {stk : List Value} {h : AHp} {post : Option Value → AHp → Prop} : Ev sc 42 52 [l0, l1, l2] (.int z :: .int x :: stk) h post = (if x = z then Ev sc 42 58 [l0, l1, l2] stk h post else Ev sc 42 55 [l0, l1, l2] stk h post) := e_icmp_eq (o := 6) (r1 := 0) (r2 := 0) 58 (by decide +kernel) rfl
theorem s42_55 {sc : Scr} {l0 l1 l2 : Value}  {stk : List Value} {h : AHp} {post : Option Value → AHp → Prop} : Ev sc 42 55 [l0, l1, l2] stk h post = Ev sc 42 57 [l0, l1, l2] (.int (-2000000002) :: stk) h post := e_1 (e := (55, .ldc 116, 0, -2000000002)) (q := (57, [l0, l1, l2], (.int (-2000000002) :: stk), h)) (by decide +kernel) rfl rfl
theorem s42_57 {sc : Scr} {l0 l1 l2 : Value} {x : Int32} {h : AHp} {post : Option Value → AHp → Prop} : Ev sc 42 57 [l0, l1, l2] [.int x] h post = post (some (.int x)) h := e_r (e := (57, .ireturn, 0, 0)) (by decide +kernel) rfl rfl
theorem s42_58 {sc : Scr} {l1 l2 : Value} {x : Nat} {stk : List Value} {h : AHp} {post : Option Value → AHp → Prop} : Ev sc 42 58 [.ref x, l1, l2] stk h post = Ev sc 42 59 [.ref x, l1, l2] (.ref x :: stk) h post := e_1 (e := (58, .aload_n 0, 0, 0)) (q := (59, [.ref x, l1, l2], (.ref x :: stk), h)) (by decide +kernel) rfl rfl
theorem s42_59 {sc : Scr} {l0 l2 : Value} {x : Int32} {stk : List Value} {h : AHp} {post : Option Value → AHp → Prop} : Ev sc 42 59 [l0, .int x, l2] stk h post = Ev sc 42 60 [l0, .int x, l2] (.int x :: stk) h post := e_1 (e := (59, .iload_n 1, 0, 0)) (q := (60, [l0, .int x, l2], (.int x :: stk), h)) (by decide +kernel) rfl rfl
theorem s42_60 {sc : Scr} {l0 l1 l2 : Value} {a0 : Int32}  {x : Nat} {h : AHp} {post : Option Value → AHp → Prop} (ho : isO h x 3) : Ev sc 42 60 [l0, l1, l2] [.int a0, .ref x] h post = Call 32 [.ref x, .int a0] h (fun rv h2 => Ev sc 42 63 [l0, l1, l2] (rv.toList ++ []) h2 post) := e_v (i := 81) (z := 32) (r2 := 0) (as := [.int a0]) (rest := []) (by decide +kernel) rfl rfl (Nat.le_of_ble_eq_true rfl) rfl ho
theorem s42_63 {sc : Scr} {l0 l2 : Value} {x : Int32} {stk : List Value} {h : AHp} {post : Option Value → AHp → Prop} : Ev sc 42 63 [l0, .int x, l2] stk h post = Ev sc 42 64 [l0, .int x, l2] (.int x :: stk) h post := e_1 (e := (63, .iload_n 1, 0, 0)) (q := (64, [l0, .int x, l2], (.int x :: stk), h)) (by decide +kernel) rfl rfl
theorem s42_64 {sc : Scr} {l0 l1 : Value} {x : Int32} {stk : List Value} {h : AHp} {post : Option Value → AHp → Prop} : Ev sc 42 64 [l0, l1, .int x] stk h post = Ev sc 42 65 [l0, l1, .int x] (.int x :: stk) h post := e_1 (e := (64, .iload_n 2, 0, 0)) (q := (65, [l0, l1, .int x], (.int x :: stk), h)) (by decide +kernel) rfl rfl
theorem s42_65 {sc : Scr} {l0 l1 l2 : Value} {a0 : Int32} {a1 : Int32}  {x : Nat} {h : AHp} {post : Option Value → AHp → Prop} (ho : isO h x 0) : Ev sc 42 65 [l0, l1, l2] [.int a0, .int a1, .ref x] h post = Call 7 [.ref x, .int a1, .int a0] h (fun rv h2 => Ev sc 42 68 [l0, l1, l2] (rv.toList ++ []) h2 post) := e_v (i := 121) (z := 7) (r2 := 0) (as := [.int a1, .int a0]) (rest := []) (by decide +kernel) rfl rfl (Nat.le_of_ble_eq_true rfl) rfl ho
theorem s42_68 {sc : Scr} {l1 l2 : Value} {x : Nat} {stk : List Value} {h : AHp} {post : Option Value → AHp → Prop} : Ev sc 42 68 [.ref x, l1, l2] stk h post = Ev sc 42 69 [.ref x, l1, l2] (.ref x :: stk) h post := e_1 (e := (68, .aload_n 0, 0, 0)) (q := (69, [.ref x, l1, l2], (.ref x :: stk), h)) (by decide +kernel) rfl rfl
theorem s42_69 {sc : Scr} {l0 l1 l2 : Value} {x : Nat} {stk : List Value} {h : AHp} {post : Option Value → AHp → Prop} : Ev sc 42 69 [l0, l1, l2] (.ref x :: stk) h post = oB (fldv h x 3 3) (fun v => Ev sc 42 72 [l0, l1, l2] (v :: stk) h post) := e_get (i := 25) (r1 := 3) (r2 := 3) (by decide +kernel)
theorem s42_72 {sc : Scr} {l0 l2 : Value} {x : Int32} {stk : List Value} {h : AHp} {post : Option Value → AHp → Prop} : Ev sc 42 72 [l0, .int x, l2] stk h post = Ev sc 42 73 [l0, .int x, l2] (.int x :: stk) h post := e_1 (e := (72, .iload_n 1, 0, 0)) (q := (73, [l0, .int x, l2], (.int x :: stk), h)) (by decide +kernel) rfl rfl
theorem s42_73 {sc : Scr} {l0 l1 : Value} {x : Int32} {stk : List Value} {h : AHp} {post : Option Value → AHp → Prop} : Ev sc 42 73 [l0, l1, .int x] stk h post = Ev sc 42 74 [l0, l1, .int x] (.int x :: stk) h post := e_1 (e := (73, .iload_n 2, 0, 0)) (q := (74, [l0, l1, .int x], (.int x :: stk), h)) (by decide +kernel) rfl rfl
theorem s42_74 {sc : Scr} {l0 l1 l2 : Value} {x : Nat} {j v : Int32} {stk : List Value} {h : AHp} {post : Option Value → AHp → Prop} : Ev sc 42 74 [l0, l1, l2] (.int v :: .int j :: .ref x :: stk) h post = oB (sti h x j v) (fun h2 => Ev sc 42 75 [l0, l1, l2] stk h2 post) := e_sti (r1 := 0) (r2 := 0) (by decide +kernel)
theorem s42_75 {sc : Scr} {l1 l2 : Value} {x : Nat} {stk : List Value} {h : AHp} {post : Option Value → AHp → Prop} : Ev sc 42 75 [.ref x, l1, l2] stk h post = Ev sc 42 76 [.ref x, l1, l2] (.ref x :: stk) h post := e_1 (e := (75, .aload_n 0, 0, 0)) (q := (76, [.ref x, l1, l2], (.ref x :: stk), h)) (by decide +kernel) rfl rfl
theorem s42_76 {sc : Scr} {l0 l1 l2 : Value}   {x : Nat} {h : AHp} {post : Option Value → AHp → Prop} (ho : isO h x 3) : Ev sc 42 76 [l0, l1, l2] [.ref x] h post = Call 31 [.ref x] h (fun rv h2 => Ev sc 42 79 [l0, l1, l2] (rv.toList ++ []) h2 post) := e_v (i := 125) (z := 31) (r2 := 0) (as := []) (rest := []) (by decide +kernel) rfl rfl (Nat.le_of_ble_eq_true rfl) rfl ho
theorem s42_79 {sc : Scr} {l0 l1 l2 : Value} {x : Int32} {h : AHp} {post : Option Value → AHp → Prop} : Ev sc 42 79 [l0, l1, l2] [.int x] h post = post (some (.int x)) h := e_r (e := (79, .ireturn, 0, 0)) (by decide +kernel) rfl rfl
-- 43 X3_moveWriter (II)I
theorem s43_e {a0 : Nat} {a1 : Int32} {a2 : Int32} {h : AHp} {post : Option Value → AHp → Prop} : Call 43 [.ref a0, .int a1, .int a2] h post = Ev none 43 0 [.ref a0, .int a1, .int a2, .long 0] [] h post := rfl
theorem s43_0 {sc : Scr} {l1 l2 l3 : Value} {x : Nat} {stk : List Value} {h : AHp} {post : Option Value → AHp → Prop} : Ev sc 43 0 [.ref x, l1, l2, l3] stk h post = Ev sc 43 1 [.ref x, l1, l2, l3] (.ref x :: stk) h post := e_1 (e := (0, .aload_n 0, 0, 0)) (q := (1, [.ref x, l1, l2, l3], (.ref x :: stk), h)) (by decide +kernel) rfl rfl
theorem s43_1 {sc : Scr} {l0 l2 l3 : Value} {x : Int32} {stk : List Value} {h : AHp} {post : Option Value → AHp → Prop} : Ev sc 43 1 [l0, .int x, l2, l3] stk h post = Ev sc 43 2 [l0, .int x, l2, l3] (.int x :: stk) h post := e_1 (e := (1, .iload_n 1, 0, 0)) (q := (2, [l0, .int x, l2, l3], (.int x :: stk), h)) (by decide +kernel) rfl rfl
theorem s43_2 {sc : Scr} {l0 l1 l2 l3 : Value} {a0 : Int32}  {x : Nat} {h : AHp} {post : Option Value → AHp → Prop} (ho : isO h x 3) : Ev sc 43 2 [l0, l1, l2, l3] [.int a0, .ref x] h post = Call 28 [.ref x, .int a0] h (fun rv h2 => Ev sc 43 5 [l0, l1, l2, l3] (rv.toList ++ []) h2 post) := e_v (i := 113) (z := 28) (r2 := 0) (as := [.int a0]) (rest := []) (by decide +kernel) rfl rfl (Nat.le_of_ble_eq_true rfl) rfl ho
theorem s43_5 {sc : Scr} {l0 l1 l2 l3 : Value} {x : Int32} {stk : List Value} {h : AHp} {post : Option Value → AHp → Prop} : Ev sc 43 5 [l0, l1, l2, l3] (.int x :: stk) h post = (if x = 0 then Ev sc 43 16 [l0, l1, l2, l3] stk h post else Ev sc 43 8 [l0, l1, l2, l3] stk h post) := e_if_eq (o := 11) (r1 := 0) (r2 := 0) 16 (by decide +kernel) rfl
theorem s43_8 {sc : Scr} {l1 l2 l3 : Value} {x : Nat} {stk : List Value} {h : AHp} {post : Option Value → AHp → Prop} : Ev sc 43 8 [.ref x, l1, l2, l3] stk h post = Ev sc 43 9 [.ref x, l1, l2, l3] (.ref x :: stk) h post := e_1 (e := (8, .aload_n 0, 0, 0)) (q := (9, [.ref x, l1, l2, l3], (.ref x :: stk), h)) (by decide +kernel) rfl rfl
theorem s43_9 {sc : Scr} {l0 l1 l3 : Value} {x : Int32} {stk : List Value} {h : AHp} {post : Option Value → AHp → Prop} : Ev sc 43 9 [l0, l1, .int x, l3] stk h post = Ev sc 43 10 [l0, l1, .int x, l3] (.int x :: stk) h post := e_1 (e := (9, .iload_n 2, 0, 0)) (q := (10, [l0, l1, .int x, l3], (.int x :: stk), h)) (by decide +kernel) rfl rfl
theorem s43_10 {sc : Scr} {l0 l1 l2 l3 : Value} {a0 : Int32}  {x : Nat} {h : AHp} {post : Option Value → AHp → Prop} (ho : isO h x 3) : Ev sc 43 10 [l0, l1, l2, l3] [.int a0, .ref x] h post = Call 27 [.ref x, .int a0] h (fun rv h2 => Ev sc 43 13 [l0, l1, l2, l3] (rv.toList ++ []) h2 post) := e_v (i := 88) (z := 27) (r2 := 0) (as := [.int a0]) (rest := []) (by decide +kernel) rfl rfl (Nat.le_of_ble_eq_true rfl) rfl ho
theorem s43_13 {sc : Scr} {l0 l1 l2 l3 : Value} {x : Int32} {stk : List Value} {h : AHp} {post : Option Value → AHp → Prop} : Ev sc 43 13 [l0, l1, l2, l3] (.int x :: stk) h post = (if ¬ x = 0 then Ev sc 43 19 [l0, l1, l2, l3] stk h post else Ev sc 43 16 [l0, l1, l2, l3] stk h post) := e_if_ne (o := 6) (r1 := 0) (r2 := 0) 19 (by decide +kernel) rfl
theorem s43_16 {sc : Scr} {l0 l1 l2 l3 : Value}  {stk : List Value} {h : AHp} {post : Option Value → AHp → Prop} : Ev sc 43 16 [l0, l1, l2, l3] stk h post = Ev sc 43 18 [l0, l1, l2, l3] (.int (-2000000001) :: stk) h post := e_1 (e := (16, .ldc 107, 0, -2000000001)) (q := (18, [l0, l1, l2, l3], (.int (-2000000001) :: stk), h)) (by decide +kernel) rfl rfl
theorem s43_18 {sc : Scr} {l0 l1 l2 l3 : Value} {x : Int32} {h : AHp} {post : Option Value → AHp → Prop} : Ev sc 43 18 [l0, l1, l2, l3] [.int x] h post = post (some (.int x)) h := e_r (e := (18, .ireturn, 0, 0)) (by decide +kernel) rfl rfl
theorem s43_19 {sc : Scr} {l1 l2 l3 : Value} {x : Nat} {stk : List Value} {h : AHp} {post : Option Value → AHp → Prop} : Ev sc 43 19 [.ref x, l1, l2, l3] stk h post = Ev sc 43 20 [.ref x, l1, l2, l3] (.ref x :: stk) h post := e_1 (e := (19, .aload_n 0, 0, 0)) (q := (20, [.ref x, l1, l2, l3], (.ref x :: stk), h)) (by decide +kernel) rfl rfl
theorem s43_20 {sc : Scr} {l0 l2 l3 : Value} {x : Int32} {stk : List Value} {h : AHp} {post : Option Value → AHp → Prop} : Ev sc 43 20 [l0, .int x, l2, l3] stk h post = Ev sc 43 21 [l0, .int x, l2, l3] (.int x :: stk) h post := e_1 (e := (20, .iload_n 1, 0, 0)) (q := (21, [l0, .int x, l2, l3], (.int x :: stk), h)) (by decide +kernel) rfl rfl
theorem s43_21 {sc : Scr} {l0 l1 l2 l3 : Value} {a0 : Int32}  {x : Nat} {h : AHp} {post : Option Value → AHp → Prop} (ho : isO h x 3) : Ev sc 43 21 [l0, l1, l2, l3] [.int a0, .ref x] h post = Call 29 [.ref x, .int a0] h (fun rv h2 => Ev sc 43 24 [l0, l1, l2, l3] (rv.toList ++ []) h2 post) := e_v (i := 77) (z := 29) (r2 := 0) (as := [.int a0]) (rest := []) (by decide +kernel) rfl rfl (Nat.le_of_ble_eq_true rfl) rfl ho
theorem s43_24 {sc : Scr} {l0 l1 l2 l3 : Value} {x : Int32} {stk : List Value} {h : AHp} {post : Option Value → AHp → Prop} : Ev sc 43 24 [l0, l1, l2, l3] (.int x :: stk) h post = (if ¬ x = 0 then Ev sc 43 56 [l0, l1, l2, l3] stk h post else Ev sc 43 27 [l0, l1, l2, l3] stk h post) := e_if_ne (o := 32) (r1 := 0) (r2 := 0) 56 (by decide +kernel) rfl
theorem s43_27 {sc : Scr} {l1 l2 l3 : Value} {x : Nat} {stk : List Value} {h : AHp} {post : Option Value → AHp → Prop} : Ev sc 43 27 [.ref x, l1, l2, l3] stk h post = Ev sc 43 28 [.ref x, l1, l2, l3] (.ref x :: stk) h post := e_1 (e := (27, .aload_n 0, 0, 0)) (q := (28, [.ref x, l1, l2, l3], (.ref x :: stk), h)) (by decide +kernel) rfl rfl
theorem s43_28 {sc : Scr} {l0 l1 l2 l3 : Value} {x : Nat} {stk : List Value} {h : AHp} {post : Option Value → AHp → Prop} : Ev sc 43 28 [l0, l1, l2, l3] (.ref x :: stk) h post = oB (fldv h x 3 2) (fun v => Ev sc 43 31 [l0, l1, l2, l3] (v :: stk) h post) := e_get (i := 21) (r1 := 3) (r2 := 2) (by decide +kernel)
theorem s43_31 {sc : Scr} {l0 l2 l3 : Value} {x : Int32} {stk : List Value} {h : AHp} {post : Option Value → AHp → Prop} : Ev sc 43 31 [l0, .int x, l2, l3] stk h post = Ev sc 43 32 [l0, .int x, l2, l3] (.int x :: stk) h post := e_1 (e := (31, .iload_n 1, 0, 0)) (q := (32, [l0, .int x, l2, l3], (.int x :: stk), h)) (by decide +kernel) rfl rfl
theorem s43_32 {sc : Scr} {l0 l1 l2 l3 : Value} {x : Nat} {j : Int32} {stk : List Value} {h : AHp} {post : Option Value → AHp → Prop} : Ev sc 43 32 [l0, l1, l2, l3] (.int j :: .ref x :: stk) h post = oB (ldi h x j) (fun v => Ev sc 43 33 [l0, l1, l2, l3] (.int v :: stk) h post) := e_ldi (r1 := 0) (r2 := 0) (by decide +kernel)
theorem s43_33 {sc : Scr} {l0 l1 l3 : Value} {x : Int32} {stk : List Value} {h : AHp} {post : Option Value → AHp → Prop} : Ev sc 43 33 [l0, l1, .int x, l3] stk h post = Ev sc 43 34 [l0, l1, .int x, l3] (.int x :: stk) h post := e_1 (e := (33, .iload_n 2, 0, 0)) (q := (34, [l0, l1, .int x, l3], (.int x :: stk), h)) (by decide +kernel) rfl rfl
theorem s43_34 {sc : Scr} {l0 l1 l2 l3 : Value} {x z : Int32} {stk : List Value} {h : AHp} {post : Option Value → AHp → Prop} : Ev sc 43 34 [l0, l1, l2, l3] (.int z :: .int x :: stk) h post = (if x = z then Ev sc 43 56 [l0, l1, l2, l3] stk h post else Ev sc 43 37 [l0, l1, l2, l3] stk h post) := e_icmp_eq (o := 22) (r1 := 0) (r2 := 0) 56 (by decide +kernel) rfl
theorem s43_37 {sc : Scr} {l1 l2 l3 : Value} {x : Nat} {stk : List Value} {h : AHp} {post : Option Value → AHp → Prop} : Ev sc 43 37 [.ref x, l1, l2, l3] stk h post = Ev sc 43 38 [.ref x, l1, l2, l3] (.ref x :: stk) h post := e_1 (e := (37, .aload_n 0, 0, 0)) (q := (38, [.ref x, l1, l2, l3], (.ref x :: stk), h)) (by decide +kernel) rfl rfl
theorem s43_38 {sc : Scr} {l0 l1 l2 l3 : Value} {x : Nat} {stk : List Value} {h : AHp} {post : Option Value → AHp → Prop} : Ev sc 43 38 [l0, l1, l2, l3] (.ref x :: stk) h post = oB (fldv h x 3 0) (fun v => Ev sc 43 41 [l0, l1, l2, l3] (v :: stk) h post) := e_get (i := 11) (r1 := 3) (r2 := 0) (by decide +kernel)
theorem s43_41 {sc : Scr} {l0 l1 l3 : Value} {x : Int32} {stk : List Value} {h : AHp} {post : Option Value → AHp → Prop} : Ev sc 43 41 [l0, l1, .int x, l3] stk h post = Ev sc 43 42 [l0, l1, .int x, l3] (.int x :: stk) h post := e_1 (e := (41, .iload_n 2, 0, 0)) (q := (42, [l0, l1, .int x, l3], (.int x :: stk), h)) (by decide +kernel) rfl rfl
theorem s43_42 {sc : Scr} {l0 l1 l2 l3 : Value} {x : Nat} {j : Int32} {stk : List Value} {h : AHp} {post : Option Value → AHp → Prop} : Ev sc 43 42 [l0, l1, l2, l3] (.int j :: .ref x :: stk) h post = oB (ldq h x j) (fun v => Ev sc 43 43 [l0, l1, l2, l3] (v :: stk) h post) := e_ldq (r1 := 0) (r2 := 0) (by decide +kernel)
theorem s43_43 {sc : Scr} {l0 l1 l2 l3 : Value} {x : Nat} {stk : List Value} {h : AHp} {post : Option Value → AHp → Prop} : Ev sc 43 43 [l0, l1, l2, l3] (.ref x :: stk) h post = oB (fldv h x 0 0) (fun v => Ev sc 43 46 [l0, l1, l2, l3] (v :: stk) h post) := e_get (i := 85) (r1 := 0) (r2 := 0) (by decide +kernel)
theorem s43_46 {sc : Scr} {l0 l2 l3 : Value} {x : Int32} {stk : List Value} {h : AHp} {post : Option Value → AHp → Prop} : Ev sc 43 46 [l0, .int x, l2, l3] stk h post = Ev sc 43 47 [l0, .int x, l2, l3] (.int x :: stk) h post := e_1 (e := (46, .iload_n 1, 0, 0)) (q := (47, [l0, .int x, l2, l3], (.int x :: stk), h)) (by decide +kernel) rfl rfl
theorem s43_47 {sc : Scr} {l0 l1 l2 l3 : Value} {x : Nat} {j : Int32} {stk : List Value} {h : AHp} {post : Option Value → AHp → Prop} : Ev sc 43 47 [l0, l1, l2, l3] (.int j :: .ref x :: stk) h post = oB (ldi h x j) (fun v => Ev sc 43 48 [l0, l1, l2, l3] (.int v :: stk) h post) := e_ldi (r1 := 0) (r2 := 0) (by decide +kernel)
theorem s43_48 {sc : Scr} {l1 l2 l3 : Value} {x : Nat} {stk : List Value} {h : AHp} {post : Option Value → AHp → Prop} : Ev sc 43 48 [.ref x, l1, l2, l3] stk h post = Ev sc 43 49 [.ref x, l1, l2, l3] (.ref x :: stk) h post := e_1 (e := (48, .aload_n 0, 0, 0)) (q := (49, [.ref x, l1, l2, l3], (.ref x :: stk), h)) (by decide +kernel) rfl rfl
theorem s43_49 {sc : Scr} {l0 l2 l3 : Value} {x : Int32} {stk : List Value} {h : AHp} {post : Option Value → AHp → Prop} : Ev sc 43 49 [l0, .int x, l2, l3] stk h post = Ev sc 43 50 [l0, .int x, l2, l3] (.int x :: stk) h post := e_1 (e := (49, .iload_n 1, 0, 0)) (q := (50, [l0, .int x, l2, l3], (.int x :: stk), h)) (by decide +kernel) rfl rfl
theorem s43_50 {sc : Scr} {l0 l1 l2 l3 : Value} {a0 : Int32} {y0 : Int32} {x : Nat} {h : AHp} {post : Option Value → AHp → Prop} (ho : isO h x 3) : Ev sc 43 50 [l0, l1, l2, l3] [.int a0, .ref x, .int y0] h post = Call 33 [.ref x, .int a0] h (fun rv h2 => Ev sc 43 53 [l0, l1, l2, l3] (rv.toList ++ [.int y0]) h2 post) := e_v (i := 95) (z := 33) (r2 := 0) (as := [.int a0]) (rest := [.int y0]) (by decide +kernel) rfl rfl (Nat.le_of_ble_eq_true rfl) rfl ho
theorem s43_53 {sc : Scr} {l0 l1 l2 l3 : Value} {x z : Int32} {stk : List Value} {h : AHp} {post : Option Value → AHp → Prop} : Ev sc 43 53 [l0, l1, l2, l3] (.int z :: .int x :: stk) h post = (if x = z then Ev sc 43 59 [l0, l1, l2, l3] stk h post else Ev sc 43 56 [l0, l1, l2, l3] stk h post) := e_icmp_eq (o := 6) (r1 := 0) (r2 := 0) 59 (by decide +kernel) rfl
theorem s43_56 {sc : Scr} {l0 l1 l2 l3 : Value}  {stk : List Value} {h : AHp} {post : Option Value → AHp → Prop} : Ev sc 43 56 [l0, l1, l2, l3] stk h post = Ev sc 43 58 [l0, l1, l2, l3] (.int (-2000000002) :: stk) h post := e_1 (e := (56, .ldc 116, 0, -2000000002)) (q := (58, [l0, l1, l2, l3], (.int (-2000000002) :: stk), h)) (by decide +kernel) rfl rfl
theorem s43_58 {sc : Scr} {l0 l1 l2 l3 : Value} {x : Int32} {h : AHp} {post : Option Value → AHp → Prop} : Ev sc 43 58 [l0, l1, l2, l3] [.int x] h post = post (some (.int x)) h := e_r (e := (58, .ireturn, 0, 0)) (by decide +kernel) rfl rfl
theorem s43_59 {sc : Scr} {l1 l2 l3 : Value} {x : Nat} {stk : List Value} {h : AHp} {post : Option Value → AHp → Prop} : Ev sc 43 59 [.ref x, l1, l2, l3] stk h post = Ev sc 43 60 [.ref x, l1, l2, l3] (.ref x :: stk) h post := e_1 (e := (59, .aload_n 0, 0, 0)) (q := (60, [.ref x, l1, l2, l3], (.ref x :: stk), h)) (by decide +kernel) rfl rfl
theorem s43_60 {sc : Scr} {l0 l1 l2 l3 : Value} {x : Nat} {stk : List Value} {h : AHp} {post : Option Value → AHp → Prop} : Ev sc 43 60 [l0, l1, l2, l3] (.ref x :: stk) h post = oB (fldv h x 3 2) (fun v => Ev sc 43 63 [l0, l1, l2, l3] (v :: stk) h post) := e_get (i := 21) (r1 := 3) (r2 := 2) (by decide +kernel)
theorem s43_63 {sc : Scr} {l0 l2 l3 : Value} {x : Int32} {stk : List Value} {h : AHp} {post : Option Value → AHp → Prop} : Ev sc 43 63 [l0, .int x, l2, l3] stk h post = Ev sc 43 64 [l0, .int x, l2, l3] (.int x :: stk) h post := e_1 (e := (63, .iload_n 1, 0, 0)) (q := (64, [l0, .int x, l2, l3], (.int x :: stk), h)) (by decide +kernel) rfl rfl
theorem s43_64 {sc : Scr} {l0 l1 l2 l3 : Value} {x : Nat} {j : Int32} {stk : List Value} {h : AHp} {post : Option Value → AHp → Prop} : Ev sc 43 64 [l0, l1, l2, l3] (.int j :: .ref x :: stk) h post = oB (ldi h x j) (fun v => Ev sc 43 65 [l0, l1, l2, l3] (.int v :: stk) h post) := e_ldi (r1 := 0) (r2 := 0) (by decide +kernel)
theorem s43_65 {sc : Scr} {l0 l1 l2 l3 : Value} {x : Int32} {stk : List Value} {h : AHp} {post : Option Value → AHp → Prop} : Ev sc 43 65 [l0, l1, l2, l3] (.int x :: stk) h post = Ev sc 43 66 [l0, l1, l2, .int x] stk h post := e_1 (e := (65, .istore_n 3, 0, 0)) (q := (66, [l0, l1, l2, .int x], stk, h)) (by decide +kernel) rfl rfl
theorem s43_66 {sc : Scr} {l1 l2 l3 : Value} {x : Nat} {stk : List Value} {h : AHp} {post : Option Value → AHp → Prop} : Ev sc 43 66 [.ref x, l1, l2, l3] stk h post = Ev sc 43 67 [.ref x, l1, l2, l3] (.ref x :: stk) h post := e_1 (e := (66, .aload_n 0, 0, 0)) (q := (67, [.ref x, l1, l2, l3], (.ref x :: stk), h)) (by decide +kernel) rfl rfl
theorem s43_67 {sc : Scr} {l0 l1 l2 l3 : Value} {x : Nat} {stk : List Value} {h : AHp} {post : Option Value → AHp → Prop} : Ev sc 43 67 [l0, l1, l2, l3] (.ref x :: stk) h post = oB (fldv h x 3 2) (fun v => Ev sc 43 70 [l0, l1, l2, l3] (v :: stk) h post) := e_get (i := 21) (r1 := 3) (r2 := 2) (by decide +kernel)
theorem s43_70 {sc : Scr} {l0 l2 l3 : Value} {x : Int32} {stk : List Value} {h : AHp} {post : Option Value → AHp → Prop} : Ev sc 43 70 [l0, .int x, l2, l3] stk h post = Ev sc 43 71 [l0, .int x, l2, l3] (.int x :: stk) h post := e_1 (e := (70, .iload_n 1, 0, 0)) (q := (71, [l0, .int x, l2, l3], (.int x :: stk), h)) (by decide +kernel) rfl rfl
theorem s43_71 {sc : Scr} {l0 l1 l3 : Value} {x : Int32} {stk : List Value} {h : AHp} {post : Option Value → AHp → Prop} : Ev sc 43 71 [l0, l1, .int x, l3] stk h post = Ev sc 43 72 [l0, l1, .int x, l3] (.int x :: stk) h post := e_1 (e := (71, .iload_n 2, 0, 0)) (q := (72, [l0, l1, .int x, l3], (.int x :: stk), h)) (by decide +kernel) rfl rfl
theorem s43_72 {sc : Scr} {l0 l1 l2 l3 : Value} {x : Nat} {j v : Int32} {stk : List Value} {h : AHp} {post : Option Value → AHp → Prop} : Ev sc 43 72 [l0, l1, l2, l3] (.int v :: .int j :: .ref x :: stk) h post = oB (sti h x j v) (fun h2 => Ev sc 43 73 [l0, l1, l2, l3] stk h2 post) := e_sti (r1 := 0) (r2 := 0) (by decide +kernel)
theorem s43_73 {sc : Scr} {l0 l1 l2 : Value} {x : Int32} {stk : List Value} {h : AHp} {post : Option Value → AHp → Prop} : Ev sc 43 73 [l0, l1, l2, .int x] stk h post = Ev sc 43 74 [l0, l1, l2, .int x] (.int x :: stk) h post := e_1 (e := (73, .iload_n 3, 0, 0)) (q := (74, [l0, l1, l2, .int x], (.int x :: stk), h)) (by decide +kernel) rfl rfl
theorem s43_74 {sc : Scr} {l0 l1 l2 l3 : Value} {x : Int32} {h : AHp} {post : Option Value → AHp → Prop} : Ev sc 43 74 [l0, l1, l2, l3] [.int x] h post = post (some (.int x)) h := e_r (e := (74, .ireturn, 0, 0)) (by decide +kernel) rfl rfl
-- 44 X3_copyView (I)I
theorem s44_e {a0 : Nat} {a1 : Int32} {h : AHp} {post : Option Value → AHp → Prop} : Call 44 [.ref a0, .int a1] h post = Ev none 44 0 [.ref a0, .int a1, .long 0] [] h post := rfl
theorem s44_0 {sc : Scr} {l1 l2 : Value} {x : Nat} {stk : List Value} {h : AHp} {post : Option Value → AHp → Prop} : Ev sc 44 0 [.ref x, l1, l2] stk h post = Ev sc 44 1 [.ref x, l1, l2] (.ref x :: stk) h post := e_1 (e := (0, .aload_n 0, 0, 0)) (q := (1, [.ref x, l1, l2], (.ref x :: stk), h)) (by decide +kernel) rfl rfl
theorem s44_1 {sc : Scr} {l0 l2 : Value} {x : Int32} {stk : List Value} {h : AHp} {post : Option Value → AHp → Prop} : Ev sc 44 1 [l0, .int x, l2] stk h post = Ev sc 44 2 [l0, .int x, l2] (.int x :: stk) h post := e_1 (e := (1, .iload_n 1, 0, 0)) (q := (2, [l0, .int x, l2], (.int x :: stk), h)) (by decide +kernel) rfl rfl
theorem s44_2 {sc : Scr} {l0 l1 l2 : Value} {a0 : Int32}  {x : Nat} {h : AHp} {post : Option Value → AHp → Prop} (ho : isO h x 3) : Ev sc 44 2 [l0, l1, l2] [.int a0, .ref x] h post = Call 27 [.ref x, .int a0] h (fun rv h2 => Ev sc 44 5 [l0, l1, l2] (rv.toList ++ []) h2 post) := e_v (i := 88) (z := 27) (r2 := 0) (as := [.int a0]) (rest := []) (by decide +kernel) rfl rfl (Nat.le_of_ble_eq_true rfl) rfl ho
theorem s44_5 {sc : Scr} {l0 l1 l2 : Value} {x : Int32} {stk : List Value} {h : AHp} {post : Option Value → AHp → Prop} : Ev sc 44 5 [l0, l1, l2] (.int x :: stk) h post = (if ¬ x = 0 then Ev sc 44 11 [l0, l1, l2] stk h post else Ev sc 44 8 [l0, l1, l2] stk h post) := e_if_ne (o := 6) (r1 := 0) (r2 := 0) 11 (by decide +kernel) rfl
theorem s44_8 {sc : Scr} {l0 l1 l2 : Value}  {stk : List Value} {h : AHp} {post : Option Value → AHp → Prop} : Ev sc 44 8 [l0, l1, l2] stk h post = Ev sc 44 10 [l0, l1, l2] (.int (-2000000001) :: stk) h post := e_1 (e := (8, .ldc 107, 0, -2000000001)) (q := (10, [l0, l1, l2], (.int (-2000000001) :: stk), h)) (by decide +kernel) rfl rfl
theorem s44_10 {sc : Scr} {l0 l1 l2 : Value} {x : Int32} {h : AHp} {post : Option Value → AHp → Prop} : Ev sc 44 10 [l0, l1, l2] [.int x] h post = post (some (.int x)) h := e_r (e := (10, .ireturn, 0, 0)) (by decide +kernel) rfl rfl
theorem s44_11 {sc : Scr} {l0 l1 l2 : Value}  {stk : List Value} {h : AHp} {post : Option Value → AHp → Prop} : Ev sc 44 11 [l0, l1, l2] stk h post = Ev sc 44 12 [l0, l1, l2] (.int (0) :: stk) h post := e_1 (e := (11, .iconst 0, 0, 0)) (q := (12, [l0, l1, l2], (.int (0) :: stk), h)) (by decide +kernel) rfl rfl
theorem s44_12 {sc : Scr} {l0 l1 l2 : Value} {x : Int32} {stk : List Value} {h : AHp} {post : Option Value → AHp → Prop} : Ev sc 44 12 [l0, l1, l2] (.int x :: stk) h post = Ev sc 44 13 [l0, l1, .int x] stk h post := e_1 (e := (12, .istore_n 2, 0, 0)) (q := (13, [l0, l1, .int x], stk, h)) (by decide +kernel) rfl rfl
theorem s44_13 {sc : Scr} {l0 l1 : Value} {x : Int32} {stk : List Value} {h : AHp} {post : Option Value → AHp → Prop} : Ev sc 44 13 [l0, l1, .int x] stk h post = Ev sc 44 14 [l0, l1, .int x] (.int x :: stk) h post := e_1 (e := (13, .iload_n 2, 0, 0)) (q := (14, [l0, l1, .int x], (.int x :: stk), h)) (by decide +kernel) rfl rfl
theorem s44_14 {sc : Scr} {l0 l1 l2 : Value}  {stk : List Value} {h : AHp} {post : Option Value → AHp → Prop} : Ev sc 44 14 [l0, l1, l2] stk h post = Ev sc 44 16 [l0, l1, l2] (.int (6) :: stk) h post := e_1 (e := (14, .bipush 6, 0, 0)) (q := (16, [l0, l1, l2], (.int (6) :: stk), h)) (by decide +kernel) rfl rfl
theorem s44_16 {sc : Scr} {l0 l1 l2 : Value} {x z : Int32} {stk : List Value} {h : AHp} {post : Option Value → AHp → Prop} : Ev sc 44 16 [l0, l1, l2] (.int z :: .int x :: stk) h post = (if z ≤ x then Ev sc 44 62 [l0, l1, l2] stk h post else Ev sc 44 19 [l0, l1, l2] stk h post) := e_icmp_ge (o := 46) (r1 := 0) (r2 := 0) 62 (by decide +kernel) rfl
theorem s44_19 {sc : Scr} {l1 l2 : Value} {x : Nat} {stk : List Value} {h : AHp} {post : Option Value → AHp → Prop} : Ev sc 44 19 [.ref x, l1, l2] stk h post = Ev sc 44 20 [.ref x, l1, l2] (.ref x :: stk) h post := e_1 (e := (19, .aload_n 0, 0, 0)) (q := (20, [.ref x, l1, l2], (.ref x :: stk), h)) (by decide +kernel) rfl rfl
theorem s44_20 {sc : Scr} {l0 l1 : Value} {x : Int32} {stk : List Value} {h : AHp} {post : Option Value → AHp → Prop} : Ev sc 44 20 [l0, l1, .int x] stk h post = Ev sc 44 21 [l0, l1, .int x] (.int x :: stk) h post := e_1 (e := (20, .iload_n 2, 0, 0)) (q := (21, [l0, l1, .int x], (.int x :: stk), h)) (by decide +kernel) rfl rfl
theorem s44_21 {sc : Scr} {l0 l1 l2 : Value} {a0 : Int32}  {x : Nat} {h : AHp} {post : Option Value → AHp → Prop} (ho : isO h x 3) : Ev sc 44 21 [l0, l1, l2] [.int a0, .ref x] h post = Call 27 [.ref x, .int a0] h (fun rv h2 => Ev sc 44 24 [l0, l1, l2] (rv.toList ++ []) h2 post) := e_v (i := 88) (z := 27) (r2 := 0) (as := [.int a0]) (rest := []) (by decide +kernel) rfl rfl (Nat.le_of_ble_eq_true rfl) rfl ho
theorem s44_24 {sc : Scr} {l0 l1 l2 : Value} {x : Int32} {stk : List Value} {h : AHp} {post : Option Value → AHp → Prop} : Ev sc 44 24 [l0, l1, l2] (.int x :: stk) h post = (if ¬ x = 0 then Ev sc 44 56 [l0, l1, l2] stk h post else Ev sc 44 27 [l0, l1, l2] stk h post) := e_if_ne (o := 32) (r1 := 0) (r2 := 0) 56 (by decide +kernel) rfl
theorem s44_27 {sc : Scr} {l1 l2 : Value} {x : Nat} {stk : List Value} {h : AHp} {post : Option Value → AHp → Prop} : Ev sc 44 27 [.ref x, l1, l2] stk h post = Ev sc 44 28 [.ref x, l1, l2] (.ref x :: stk) h post := e_1 (e := (27, .aload_n 0, 0, 0)) (q := (28, [.ref x, l1, l2], (.ref x :: stk), h)) (by decide +kernel) rfl rfl
theorem s44_28 {sc : Scr} {l0 l1 l2 : Value} {x : Nat} {stk : List Value} {h : AHp} {post : Option Value → AHp → Prop} : Ev sc 44 28 [l0, l1, l2] (.ref x :: stk) h post = Ev sc 44 29 [l0, l1, l2] (.ref x :: .ref x :: stk) h post := e_1 (e := (28, .dup, 0, 0)) (q := (29, [l0, l1, l2], (.ref x :: .ref x :: stk), h)) (by decide +kernel) rfl rfl
theorem s44_29 {sc : Scr} {l0 l1 l2 : Value} {x : Nat} {stk : List Value} {h : AHp} {post : Option Value → AHp → Prop} : Ev sc 44 29 [l0, l1, l2] (.ref x :: stk) h post = oB (fldv h x 3 1) (fun v => Ev sc 44 32 [l0, l1, l2] (v :: stk) h post) := e_get (i := 17) (r1 := 3) (r2 := 1) (by decide +kernel)
theorem s44_32 {sc : Scr} {l0 l1 l2 : Value}  {stk : List Value} {h : AHp} {post : Option Value → AHp → Prop} : Ev sc 44 32 [l0, l1, l2] stk h post = Ev sc 44 33 [l0, l1, l2] (.int (1) :: stk) h post := e_1 (e := (32, .iconst 1, 0, 0)) (q := (33, [l0, l1, l2], (.int (1) :: stk), h)) (by decide +kernel) rfl rfl
theorem s44_33 {sc : Scr} {l0 l1 : Value} {x : Int32} {stk : List Value} {h : AHp} {post : Option Value → AHp → Prop} : Ev sc 44 33 [l0, l1, .int x] stk h post = Ev sc 44 34 [l0, l1, .int x] (.int x :: stk) h post := e_1 (e := (33, .iload_n 2, 0, 0)) (q := (34, [l0, l1, .int x], (.int x :: stk), h)) (by decide +kernel) rfl rfl
theorem s44_34 {sc : Scr} {l0 l1 l2 : Value} {x z : Int32} {stk : List Value} {h : AHp} {post : Option Value → AHp → Prop} : Ev sc 44 34 [l0, l1, l2] (.int z :: .int x :: stk) h post = Ev sc 44 35 [l0, l1, l2] (.int (x <<< (z &&& 31)) :: stk) h post := e_1 (e := (34, .ishl, 0, 0)) (q := (35, [l0, l1, l2], (.int (x <<< (z &&& 31)) :: stk), h)) (by decide +kernel) rfl rfl
theorem s44_35 {sc : Scr} {l0 l1 l2 : Value} {x z : Int32} {stk : List Value} {h : AHp} {post : Option Value → AHp → Prop} : Ev sc 44 35 [l0, l1, l2] (.int z :: .int x :: stk) h post = Ev sc 44 36 [l0, l1, l2] (.int (x ||| z) :: stk) h post := e_1 (e := (35, .ior, 0, 0)) (q := (36, [l0, l1, l2], (.int (x ||| z) :: stk), h)) (by decide +kernel) rfl rfl
theorem s44_36 {sc : Scr} {l0 l1 l2 : Value} {x : Nat} {v : Int32} {stk : List Value} {h : AHp} {post : Option Value → AHp → Prop} : Ev sc 44 36 [l0, l1, l2] (.int v :: .ref x :: stk) h post = oB (stf h x 3 1 (.int v)) (fun h2 => Ev sc 44 39 [l0, l1, l2] stk h2 post) := e_put (i := 17) (r1 := 3) (r2 := 1) (by decide +kernel)
theorem s44_39 {sc : Scr} {l1 l2 : Value} {x : Nat} {stk : List Value} {h : AHp} {post : Option Value → AHp → Prop} : Ev sc 44 39 [.ref x, l1, l2] stk h post = Ev sc 44 40 [.ref x, l1, l2] (.ref x :: stk) h post := e_1 (e := (39, .aload_n 0, 0, 0)) (q := (40, [.ref x, l1, l2], (.ref x :: stk), h)) (by decide +kernel) rfl rfl
theorem s44_40 {sc : Scr} {l0 l1 l2 : Value} {x : Nat} {stk : List Value} {h : AHp} {post : Option Value → AHp → Prop} : Ev sc 44 40 [l0, l1, l2] (.ref x :: stk) h post = oB (fldv h x 3 0) (fun v => Ev sc 44 43 [l0, l1, l2] (v :: stk) h post) := e_get (i := 11) (r1 := 3) (r2 := 0) (by decide +kernel)
theorem s44_43 {sc : Scr} {l0 l1 : Value} {x : Int32} {stk : List Value} {h : AHp} {post : Option Value → AHp → Prop} : Ev sc 44 43 [l0, l1, .int x] stk h post = Ev sc 44 44 [l0, l1, .int x] (.int x :: stk) h post := e_1 (e := (43, .iload_n 2, 0, 0)) (q := (44, [l0, l1, .int x], (.int x :: stk), h)) (by decide +kernel) rfl rfl
theorem s44_44 {sc : Scr} {l0 l1 l2 : Value} {x : Nat} {j : Int32} {stk : List Value} {h : AHp} {post : Option Value → AHp → Prop} : Ev sc 44 44 [l0, l1, l2] (.int j :: .ref x :: stk) h post = oB (ldq h x j) (fun v => Ev sc 44 45 [l0, l1, l2] (v :: stk) h post) := e_ldq (r1 := 0) (r2 := 0) (by decide +kernel)
theorem s44_45 {sc : Scr} {l1 l2 : Value} {x : Nat} {stk : List Value} {h : AHp} {post : Option Value → AHp → Prop} : Ev sc 44 45 [.ref x, l1, l2] stk h post = Ev sc 44 46 [.ref x, l1, l2] (.ref x :: stk) h post := e_1 (e := (45, .aload_n 0, 0, 0)) (q := (46, [.ref x, l1, l2], (.ref x :: stk), h)) (by decide +kernel) rfl rfl
theorem s44_46 {sc : Scr} {l0 l1 l2 : Value} {x : Nat} {stk : List Value} {h : AHp} {post : Option Value → AHp → Prop} : Ev sc 44 46 [l0, l1, l2] (.ref x :: stk) h post = oB (fldv h x 3 0) (fun v => Ev sc 44 49 [l0, l1, l2] (v :: stk) h post) := e_get (i := 11) (r1 := 3) (r2 := 0) (by decide +kernel)
theorem s44_49 {sc : Scr} {l0 l2 : Value} {x : Int32} {stk : List Value} {h : AHp} {post : Option Value → AHp → Prop} : Ev sc 44 49 [l0, .int x, l2] stk h post = Ev sc 44 50 [l0, .int x, l2] (.int x :: stk) h post := e_1 (e := (49, .iload_n 1, 0, 0)) (q := (50, [l0, .int x, l2], (.int x :: stk), h)) (by decide +kernel) rfl rfl
theorem s44_50 {sc : Scr} {l0 l1 l2 : Value} {x : Nat} {j : Int32} {stk : List Value} {h : AHp} {post : Option Value → AHp → Prop} : Ev sc 44 50 [l0, l1, l2] (.int j :: .ref x :: stk) h post = oB (ldq h x j) (fun v => Ev sc 44 51 [l0, l1, l2] (v :: stk) h post) := e_ldq (r1 := 0) (r2 := 0) (by decide +kernel)
theorem s44_51 {sc : Scr} {l0 l1 l2 : Value} {a0 : Nat}  {x : Nat} {h : AHp} {post : Option Value → AHp → Prop} (ho : isO h x 0) : Ev sc 44 51 [l0, l1, l2] [.ref a0, .ref x] h post = Call 1 [.ref x, .ref a0] h (fun rv h2 => Ev sc 44 54 [l0, l1, l2] (rv.toList ++ []) h2 post) := e_v (i := 54) (z := 1) (r2 := 0) (as := [.ref a0]) (rest := []) (by decide +kernel) rfl rfl (Nat.le_of_ble_eq_true rfl) rfl ho
theorem s44_54 {sc : Scr} {l0 l1 : Value} {x : Int32} {stk : List Value} {h : AHp} {post : Option Value → AHp → Prop} : Ev sc 44 54 [l0, l1, .int x] stk h post = Ev sc 44 55 [l0, l1, .int x] (.int x :: stk) h post := e_1 (e := (54, .iload_n 2, 0, 0)) (q := (55, [l0, l1, .int x], (.int x :: stk), h)) (by decide +kernel) rfl rfl
theorem s44_55 {sc : Scr} {l0 l1 l2 : Value} {x : Int32} {h : AHp} {post : Option Value → AHp → Prop} : Ev sc 44 55 [l0, l1, l2] [.int x] h post = post (some (.int x)) h := e_r (e := (55, .ireturn, 0, 0)) (by decide +kernel) rfl rfl
theorem s44_56 {sc : Scr} {l0 l1 : Value} {x : Int32} {stk : List Value} {h : AHp} {post : Option Value → AHp → Prop} : Ev sc 44 56 [l0, l1, .int x] stk h post = Ev sc 44 59 [l0, l1, .int (x + 1)] stk h post := e_1 (e := (56, .iinc 2 1, 0, 0)) (q := (59, [l0, l1, .int (x + 1)], stk, h)) (by decide +kernel) rfl rfl
theorem s44_59 {sc : Scr} {l0 l1 l2 : Value}  {stk : List Value} {h : AHp} {post : Option Value → AHp → Prop} : Ev sc 44 59 [l0, l1, l2] stk h post = Ev sc 44 13 [l0, l1, l2] stk h post := e_1 (e := (59, .goto (-46), 0, 0)) (q := (13, [l0, l1, l2], stk, h)) (by decide +kernel) rfl rfl
theorem s44_62 {sc : Scr} {l0 l1 l2 : Value}  {stk : List Value} {h : AHp} {post : Option Value → AHp → Prop} : Ev sc 44 62 [l0, l1, l2] stk h post = Ev sc 44 64 [l0, l1, l2] (.int (-2000000003) :: stk) h post := e_1 (e := (62, .ldc 108, 0, -2000000003)) (q := (64, [l0, l1, l2], (.int (-2000000003) :: stk), h)) (by decide +kernel) rfl rfl
theorem s44_64 {sc : Scr} {l0 l1 l2 : Value} {x : Int32} {h : AHp} {post : Option Value → AHp → Prop} : Ev sc 44 64 [l0, l1, l2] [.int x] h post = post (some (.int x)) h := e_r (e := (64, .ireturn, 0, 0)) (by decide +kernel) rfl rfl
-- 45 X3_dropView (I)I
theorem s45_e {a0 : Nat} {a1 : Int32} {h : AHp} {post : Option Value → AHp → Prop} : Call 45 [.ref a0, .int a1] h post = Ev none 45 0 [.ref a0, .int a1, .long 0] [] h post := rfl
theorem s45_0 {sc : Scr} {l1 l2 : Value} {x : Nat} {stk : List Value} {h : AHp} {post : Option Value → AHp → Prop} : Ev sc 45 0 [.ref x, l1, l2] stk h post = Ev sc 45 1 [.ref x, l1, l2] (.ref x :: stk) h post := e_1 (e := (0, .aload_n 0, 0, 0)) (q := (1, [.ref x, l1, l2], (.ref x :: stk), h)) (by decide +kernel) rfl rfl
theorem s45_1 {sc : Scr} {l0 l2 : Value} {x : Int32} {stk : List Value} {h : AHp} {post : Option Value → AHp → Prop} : Ev sc 45 1 [l0, .int x, l2] stk h post = Ev sc 45 2 [l0, .int x, l2] (.int x :: stk) h post := e_1 (e := (1, .iload_n 1, 0, 0)) (q := (2, [l0, .int x, l2], (.int x :: stk), h)) (by decide +kernel) rfl rfl
theorem s45_2 {sc : Scr} {l0 l1 l2 : Value} {a0 : Int32}  {x : Nat} {h : AHp} {post : Option Value → AHp → Prop} (ho : isO h x 3) : Ev sc 45 2 [l0, l1, l2] [.int a0, .ref x] h post = Call 27 [.ref x, .int a0] h (fun rv h2 => Ev sc 45 5 [l0, l1, l2] (rv.toList ++ []) h2 post) := e_v (i := 88) (z := 27) (r2 := 0) (as := [.int a0]) (rest := []) (by decide +kernel) rfl rfl (Nat.le_of_ble_eq_true rfl) rfl ho
theorem s45_5 {sc : Scr} {l0 l1 l2 : Value} {x : Int32} {stk : List Value} {h : AHp} {post : Option Value → AHp → Prop} : Ev sc 45 5 [l0, l1, l2] (.int x :: stk) h post = (if ¬ x = 0 then Ev sc 45 11 [l0, l1, l2] stk h post else Ev sc 45 8 [l0, l1, l2] stk h post) := e_if_ne (o := 6) (r1 := 0) (r2 := 0) 11 (by decide +kernel) rfl
theorem s45_8 {sc : Scr} {l0 l1 l2 : Value}  {stk : List Value} {h : AHp} {post : Option Value → AHp → Prop} : Ev sc 45 8 [l0, l1, l2] stk h post = Ev sc 45 10 [l0, l1, l2] (.int (-2000000001) :: stk) h post := e_1 (e := (8, .ldc 107, 0, -2000000001)) (q := (10, [l0, l1, l2], (.int (-2000000001) :: stk), h)) (by decide +kernel) rfl rfl
theorem s45_10 {sc : Scr} {l0 l1 l2 : Value} {x : Int32} {h : AHp} {post : Option Value → AHp → Prop} : Ev sc 45 10 [l0, l1, l2] [.int x] h post = post (some (.int x)) h := e_r (e := (10, .ireturn, 0, 0)) (by decide +kernel) rfl rfl
theorem s45_11 {sc : Scr} {l1 l2 : Value} {x : Nat} {stk : List Value} {h : AHp} {post : Option Value → AHp → Prop} : Ev sc 45 11 [.ref x, l1, l2] stk h post = Ev sc 45 12 [.ref x, l1, l2] (.ref x :: stk) h post := e_1 (e := (11, .aload_n 0, 0, 0)) (q := (12, [.ref x, l1, l2], (.ref x :: stk), h)) (by decide +kernel) rfl rfl
theorem s45_12 {sc : Scr} {l0 l2 : Value} {x : Int32} {stk : List Value} {h : AHp} {post : Option Value → AHp → Prop} : Ev sc 45 12 [l0, .int x, l2] stk h post = Ev sc 45 13 [l0, .int x, l2] (.int x :: stk) h post := e_1 (e := (12, .iload_n 1, 0, 0)) (q := (13, [l0, .int x, l2], (.int x :: stk), h)) (by decide +kernel) rfl rfl
theorem s45_13 {sc : Scr} {l0 l1 l2 : Value} {a0 : Int32}  {x : Nat} {h : AHp} {post : Option Value → AHp → Prop} (ho : isO h x 3) : Ev sc 45 13 [l0, l1, l2] [.int a0, .ref x] h post = Call 34 [.ref x, .int a0] h (fun rv h2 => Ev sc 45 16 [l0, l1, l2] (rv.toList ++ []) h2 post) := e_v (i := 128) (z := 34) (r2 := 0) (as := [.int a0]) (rest := []) (by decide +kernel) rfl rfl (Nat.le_of_ble_eq_true rfl) rfl ho
theorem s45_16 {sc : Scr} {l0 l1 l2 : Value} {x : Int32} {stk : List Value} {h : AHp} {post : Option Value → AHp → Prop} : Ev sc 45 16 [l0, l1, l2] (.int x :: stk) h post = (if ¬ x = 0 then Ev sc 45 27 [l0, l1, l2] stk h post else Ev sc 45 19 [l0, l1, l2] stk h post) := e_if_ne (o := 11) (r1 := 0) (r2 := 0) 27 (by decide +kernel) rfl
theorem s45_19 {sc : Scr} {l1 l2 : Value} {x : Nat} {stk : List Value} {h : AHp} {post : Option Value → AHp → Prop} : Ev sc 45 19 [.ref x, l1, l2] stk h post = Ev sc 45 20 [.ref x, l1, l2] (.ref x :: stk) h post := e_1 (e := (19, .aload_n 0, 0, 0)) (q := (20, [.ref x, l1, l2], (.ref x :: stk), h)) (by decide +kernel) rfl rfl
theorem s45_20 {sc : Scr} {l0 l1 l2 : Value}   {x : Nat} {h : AHp} {post : Option Value → AHp → Prop} (ho : isO h x 3) : Ev sc 45 20 [l0, l1, l2] [.ref x] h post = Call 30 [.ref x] h (fun rv h2 => Ev sc 45 23 [l0, l1, l2] (rv.toList ++ []) h2 post) := e_v (i := 131) (z := 30) (r2 := 0) (as := []) (rest := []) (by decide +kernel) rfl rfl (Nat.le_of_ble_eq_true rfl) rfl ho
theorem s45_23 {sc : Scr} {l0 l1 l2 : Value}  {stk : List Value} {h : AHp} {post : Option Value → AHp → Prop} : Ev sc 45 23 [l0, l1, l2] stk h post = Ev sc 45 24 [l0, l1, l2] (.int (1) :: stk) h post := e_1 (e := (23, .iconst 1, 0, 0)) (q := (24, [l0, l1, l2], (.int (1) :: stk), h)) (by decide +kernel) rfl rfl
theorem s45_24 {sc : Scr} {l0 l1 l2 : Value} {x z : Int32} {stk : List Value} {h : AHp} {post : Option Value → AHp → Prop} : Ev sc 45 24 [l0, l1, l2] (.int z :: .int x :: stk) h post = (if ¬ x = z then Ev sc 45 30 [l0, l1, l2] stk h post else Ev sc 45 27 [l0, l1, l2] stk h post) := e_icmp_ne (o := 6) (r1 := 0) (r2 := 0) 30 (by decide +kernel) rfl
theorem s45_27 {sc : Scr} {l0 l1 l2 : Value}  {stk : List Value} {h : AHp} {post : Option Value → AHp → Prop} : Ev sc 45 27 [l0, l1, l2] stk h post = Ev sc 45 29 [l0, l1, l2] (.int (-2000000002) :: stk) h post := e_1 (e := (27, .ldc 116, 0, -2000000002)) (q := (29, [l0, l1, l2], (.int (-2000000002) :: stk), h)) (by decide +kernel) rfl rfl
theorem s45_29 {sc : Scr} {l0 l1 l2 : Value} {x : Int32} {h : AHp} {post : Option Value → AHp → Prop} : Ev sc 45 29 [l0, l1, l2] [.int x] h post = post (some (.int x)) h := e_r (e := (29, .ireturn, 0, 0)) (by decide +kernel) rfl rfl
theorem s45_30 {sc : Scr} {l1 l2 : Value} {x : Nat} {stk : List Value} {h : AHp} {post : Option Value → AHp → Prop} : Ev sc 45 30 [.ref x, l1, l2] stk h post = Ev sc 45 31 [.ref x, l1, l2] (.ref x :: stk) h post := e_1 (e := (30, .aload_n 0, 0, 0)) (q := (31, [.ref x, l1, l2], (.ref x :: stk), h)) (by decide +kernel) rfl rfl
theorem s45_31 {sc : Scr} {l0 l1 l2 : Value} {x : Nat} {stk : List Value} {h : AHp} {post : Option Value → AHp → Prop} : Ev sc 45 31 [l0, l1, l2] (.ref x :: stk) h post = Ev sc 45 32 [l0, l1, l2] (.ref x :: .ref x :: stk) h post := e_1 (e := (31, .dup, 0, 0)) (q := (32, [l0, l1, l2], (.ref x :: .ref x :: stk), h)) (by decide +kernel) rfl rfl
theorem s45_32 {sc : Scr} {l0 l1 l2 : Value} {x : Nat} {stk : List Value} {h : AHp} {post : Option Value → AHp → Prop} : Ev sc 45 32 [l0, l1, l2] (.ref x :: stk) h post = oB (fldv h x 3 1) (fun v => Ev sc 45 35 [l0, l1, l2] (v :: stk) h post) := e_get (i := 17) (r1 := 3) (r2 := 1) (by decide +kernel)
theorem s45_35 {sc : Scr} {l0 l1 l2 : Value}  {stk : List Value} {h : AHp} {post : Option Value → AHp → Prop} : Ev sc 45 35 [l0, l1, l2] stk h post = Ev sc 45 36 [l0, l1, l2] (.int (1) :: stk) h post := e_1 (e := (35, .iconst 1, 0, 0)) (q := (36, [l0, l1, l2], (.int (1) :: stk), h)) (by decide +kernel) rfl rfl
theorem s45_36 {sc : Scr} {l0 l2 : Value} {x : Int32} {stk : List Value} {h : AHp} {post : Option Value → AHp → Prop} : Ev sc 45 36 [l0, .int x, l2] stk h post = Ev sc 45 37 [l0, .int x, l2] (.int x :: stk) h post := e_1 (e := (36, .iload_n 1, 0, 0)) (q := (37, [l0, .int x, l2], (.int x :: stk), h)) (by decide +kernel) rfl rfl
theorem s45_37 {sc : Scr} {l0 l1 l2 : Value} {x z : Int32} {stk : List Value} {h : AHp} {post : Option Value → AHp → Prop} : Ev sc 45 37 [l0, l1, l2] (.int z :: .int x :: stk) h post = Ev sc 45 38 [l0, l1, l2] (.int (x <<< (z &&& 31)) :: stk) h post := e_1 (e := (37, .ishl, 0, 0)) (q := (38, [l0, l1, l2], (.int (x <<< (z &&& 31)) :: stk), h)) (by decide +kernel) rfl rfl
theorem s45_38 {sc : Scr} {l0 l1 l2 : Value}  {stk : List Value} {h : AHp} {post : Option Value → AHp → Prop} : Ev sc 45 38 [l0, l1, l2] stk h post = Ev sc 45 39 [l0, l1, l2] (.int (-1) :: stk) h post := e_1 (e := (38, .iconst (-1), 0, 0)) (q := (39, [l0, l1, l2], (.int (-1) :: stk), h)) (by decide +kernel) rfl rfl
theorem s45_39 {sc : Scr} {l0 l1 l2 : Value} {x z : Int32} {stk : List Value} {h : AHp} {post : Option Value → AHp → Prop} : Ev sc 45 39 [l0, l1, l2] (.int z :: .int x :: stk) h post = Ev sc 45 40 [l0, l1, l2] (.int (x ^^^ z) :: stk) h post := e_1 (e := (39, .ixor, 0, 0)) (q := (40, [l0, l1, l2], (.int (x ^^^ z) :: stk), h)) (by decide +kernel) rfl rfl
theorem s45_40 {sc : Scr} {l0 l1 l2 : Value} {x z : Int32} {stk : List Value} {h : AHp} {post : Option Value → AHp → Prop} : Ev sc 45 40 [l0, l1, l2] (.int z :: .int x :: stk) h post = Ev sc 45 41 [l0, l1, l2] (.int (x &&& z) :: stk) h post := e_1 (e := (40, .iand, 0, 0)) (q := (41, [l0, l1, l2], (.int (x &&& z) :: stk), h)) (by decide +kernel) rfl rfl
theorem s45_41 {sc : Scr} {l0 l1 l2 : Value} {x : Nat} {v : Int32} {stk : List Value} {h : AHp} {post : Option Value → AHp → Prop} : Ev sc 45 41 [l0, l1, l2] (.int v :: .ref x :: stk) h post = oB (stf h x 3 1 (.int v)) (fun h2 => Ev sc 45 44 [l0, l1, l2] stk h2 post) := e_put (i := 17) (r1 := 3) (r2 := 1) (by decide +kernel)
theorem s45_44 {sc : Scr} {l0 l1 l2 : Value}  {stk : List Value} {h : AHp} {post : Option Value → AHp → Prop} : Ev sc 45 44 [l0, l1, l2] stk h post = Ev sc 45 45 [l0, l1, l2] (.int (0) :: stk) h post := e_1 (e := (44, .iconst 0, 0, 0)) (q := (45, [l0, l1, l2], (.int (0) :: stk), h)) (by decide +kernel) rfl rfl
theorem s45_45 {sc : Scr} {l0 l1 l2 : Value} {x : Int32} {stk : List Value} {h : AHp} {post : Option Value → AHp → Prop} : Ev sc 45 45 [l0, l1, l2] (.int x :: stk) h post = Ev sc 45 46 [l0, l1, .int x] stk h post := e_1 (e := (45, .istore_n 2, 0, 0)) (q := (46, [l0, l1, .int x], stk, h)) (by decide +kernel) rfl rfl
theorem s45_46 {sc : Scr} {l0 l1 : Value} {x : Int32} {stk : List Value} {h : AHp} {post : Option Value → AHp → Prop} : Ev sc 45 46 [l0, l1, .int x] stk h post = Ev sc 45 47 [l0, l1, .int x] (.int x :: stk) h post := e_1 (e := (46, .iload_n 2, 0, 0)) (q := (47, [l0, l1, .int x], (.int x :: stk), h)) (by decide +kernel) rfl rfl
theorem s45_47 {sc : Scr} {l1 l2 : Value} {x : Nat} {stk : List Value} {h : AHp} {post : Option Value → AHp → Prop} : Ev sc 45 47 [.ref x, l1, l2] stk h post = Ev sc 45 48 [.ref x, l1, l2] (.ref x :: stk) h post := e_1 (e := (47, .aload_n 0, 0, 0)) (q := (48, [.ref x, l1, l2], (.ref x :: stk), h)) (by decide +kernel) rfl rfl
theorem s45_48 {sc : Scr} {l0 l1 l2 : Value} {x : Nat} {stk : List Value} {h : AHp} {post : Option Value → AHp → Prop} : Ev sc 45 48 [l0, l1, l2] (.ref x :: stk) h post = oB (fldv h x 3 6) (fun v => Ev sc 45 51 [l0, l1, l2] (v :: stk) h post) := e_get (i := 37) (r1 := 3) (r2 := 6) (by decide +kernel)
theorem s45_51 {sc : Scr} {l0 l1 l2 : Value} {x z : Int32} {stk : List Value} {h : AHp} {post : Option Value → AHp → Prop} : Ev sc 45 51 [l0, l1, l2] (.int z :: .int x :: stk) h post = (if z ≤ x then Ev sc 45 83 [l0, l1, l2] stk h post else Ev sc 45 54 [l0, l1, l2] stk h post) := e_icmp_ge (o := 32) (r1 := 0) (r2 := 0) 83 (by decide +kernel) rfl
theorem s45_54 {sc : Scr} {l1 l2 : Value} {x : Nat} {stk : List Value} {h : AHp} {post : Option Value → AHp → Prop} : Ev sc 45 54 [.ref x, l1, l2] stk h post = Ev sc 45 55 [.ref x, l1, l2] (.ref x :: stk) h post := e_1 (e := (54, .aload_n 0, 0, 0)) (q := (55, [.ref x, l1, l2], (.ref x :: stk), h)) (by decide +kernel) rfl rfl
theorem s45_55 {sc : Scr} {l0 l1 l2 : Value} {x : Nat} {stk : List Value} {h : AHp} {post : Option Value → AHp → Prop} : Ev sc 45 55 [l0, l1, l2] (.ref x :: stk) h post = oB (fldv h x 3 5) (fun v => Ev sc 45 58 [l0, l1, l2] (v :: stk) h post) := e_get (i := 33) (r1 := 3) (r2 := 5) (by decide +kernel)
theorem s45_58 {sc : Scr} {l0 l1 : Value} {x : Int32} {stk : List Value} {h : AHp} {post : Option Value → AHp → Prop} : Ev sc 45 58 [l0, l1, .int x] stk h post = Ev sc 45 59 [l0, l1, .int x] (.int x :: stk) h post := e_1 (e := (58, .iload_n 2, 0, 0)) (q := (59, [l0, l1, .int x], (.int x :: stk), h)) (by decide +kernel) rfl rfl
theorem s45_59 {sc : Scr} {l0 l1 l2 : Value} {x : Nat} {j : Int32} {stk : List Value} {h : AHp} {post : Option Value → AHp → Prop} : Ev sc 45 59 [l0, l1, l2] (.int j :: .ref x :: stk) h post = oB (ldq h x j) (fun v => Ev sc 45 60 [l0, l1, l2] (v :: stk) h post) := e_ldq (r1 := 0) (r2 := 0) (by decide +kernel)
theorem s45_60 {sc : Scr} {l0 l1 l2 : Value} {x : Nat} {stk : List Value} {h : AHp} {post : Option Value → AHp → Prop} : Ev sc 45 60 [l0, l1, l2] (.ref x :: stk) h post = oB (fldv h x 1 1) (fun v => Ev sc 45 63 [l0, l1, l2] (v :: stk) h post) := e_get (i := 134) (r1 := 1) (r2 := 1) (by decide +kernel)
theorem s45_63 {sc : Scr} {l0 l2 : Value} {x : Int32} {stk : List Value} {h : AHp} {post : Option Value → AHp → Prop} : Ev sc 45 63 [l0, .int x, l2] stk h post = Ev sc 45 64 [l0, .int x, l2] (.int x :: stk) h post := e_1 (e := (63, .iload_n 1, 0, 0)) (q := (64, [l0, .int x, l2], (.int x :: stk), h)) (by decide +kernel) rfl rfl
theorem s45_64 {sc : Scr} {l0 l1 l2 : Value} {x z : Int32} {stk : List Value} {h : AHp} {post : Option Value → AHp → Prop} : Ev sc 45 64 [l0, l1, l2] (.int z :: .int x :: stk) h post = (if ¬ x = z then Ev sc 45 77 [l0, l1, l2] stk h post else Ev sc 45 67 [l0, l1, l2] stk h post) := e_icmp_ne (o := 13) (r1 := 0) (r2 := 0) 77 (by decide +kernel) rfl
theorem s45_67 {sc : Scr} {l1 l2 : Value} {x : Nat} {stk : List Value} {h : AHp} {post : Option Value → AHp → Prop} : Ev sc 45 67 [.ref x, l1, l2] stk h post = Ev sc 45 68 [.ref x, l1, l2] (.ref x :: stk) h post := e_1 (e := (67, .aload_n 0, 0, 0)) (q := (68, [.ref x, l1, l2], (.ref x :: stk), h)) (by decide +kernel) rfl rfl
theorem s45_68 {sc : Scr} {l0 l1 l2 : Value} {x : Nat} {stk : List Value} {h : AHp} {post : Option Value → AHp → Prop} : Ev sc 45 68 [l0, l1, l2] (.ref x :: stk) h post = oB (fldv h x 3 5) (fun v => Ev sc 45 71 [l0, l1, l2] (v :: stk) h post) := e_get (i := 33) (r1 := 3) (r2 := 5) (by decide +kernel)
theorem s45_71 {sc : Scr} {l0 l1 : Value} {x : Int32} {stk : List Value} {h : AHp} {post : Option Value → AHp → Prop} : Ev sc 45 71 [l0, l1, .int x] stk h post = Ev sc 45 72 [l0, l1, .int x] (.int x :: stk) h post := e_1 (e := (71, .iload_n 2, 0, 0)) (q := (72, [l0, l1, .int x], (.int x :: stk), h)) (by decide +kernel) rfl rfl
theorem s45_72 {sc : Scr} {l0 l1 l2 : Value} {x : Nat} {j : Int32} {stk : List Value} {h : AHp} {post : Option Value → AHp → Prop} : Ev sc 45 72 [l0, l1, l2] (.int j :: .ref x :: stk) h post = oB (ldq h x j) (fun v => Ev sc 45 73 [l0, l1, l2] (v :: stk) h post) := e_ldq (r1 := 0) (r2 := 0) (by decide +kernel)
theorem s45_73 {sc : Scr} {l0 l1 l2 : Value}  {stk : List Value} {h : AHp} {post : Option Value → AHp → Prop} : Ev sc 45 73 [l0, l1, l2] stk h post = Ev sc 45 74 [l0, l1, l2] (.int (1) :: stk) h post := e_1 (e := (73, .iconst 1, 0, 0)) (q := (74, [l0, l1, l2], (.int (1) :: stk), h)) (by decide +kernel) rfl rfl
theorem s45_74 {sc : Scr} {l0 l1 l2 : Value} {x : Nat} {v : Int32} {stk : List Value} {h : AHp} {post : Option Value → AHp → Prop} : Ev sc 45 74 [l0, l1, l2] (.int v :: .ref x :: stk) h post = oB (stf h x 1 3 (.int v)) (fun h2 => Ev sc 45 77 [l0, l1, l2] stk h2 post) := e_put (i := 137) (r1 := 1) (r2 := 3) (by decide +kernel)
theorem s45_77 {sc : Scr} {l0 l1 : Value} {x : Int32} {stk : List Value} {h : AHp} {post : Option Value → AHp → Prop} : Ev sc 45 77 [l0, l1, .int x] stk h post = Ev sc 45 80 [l0, l1, .int (x + 1)] stk h post := e_1 (e := (77, .iinc 2 1, 0, 0)) (q := (80, [l0, l1, .int (x + 1)], stk, h)) (by decide +kernel) rfl rfl
theorem s45_80 {sc : Scr} {l0 l1 l2 : Value}  {stk : List Value} {h : AHp} {post : Option Value → AHp → Prop} : Ev sc 45 80 [l0, l1, l2] stk h post = Ev sc 45 46 [l0, l1, l2] stk h post := e_1 (e := (80, .goto (-34), 0, 0)) (q := (46, [l0, l1, l2], stk, h)) (by decide +kernel) rfl rfl
theorem s45_83 {sc : Scr} {l1 l2 : Value} {x : Nat} {stk : List Value} {h : AHp} {post : Option Value → AHp → Prop} : Ev sc 45 83 [.ref x, l1, l2] stk h post = Ev sc 45 84 [.ref x, l1, l2] (.ref x :: stk) h post := e_1 (e := (83, .aload_n 0, 0, 0)) (q := (84, [.ref x, l1, l2], (.ref x :: stk), h)) (by decide +kernel) rfl rfl
theorem s45_84 {sc : Scr} {l0 l1 l2 : Value}   {x : Nat} {h : AHp} {post : Option Value → AHp → Prop} (ho : isO h x 3) : Ev sc 45 84 [l0, l1, l2] [.ref x] h post = Call 30 [.ref x] h (fun rv h2 => Ev sc 45 87 [l0, l1, l2] (rv.toList ++ []) h2 post) := e_v (i := 131) (z := 30) (r2 := 0) (as := []) (rest := []) (by decide +kernel) rfl rfl (Nat.le_of_ble_eq_true rfl) rfl ho
theorem s45_87 {sc : Scr} {l0 l1 l2 : Value} {x : Int32} {h : AHp} {post : Option Value → AHp → Prop} : Ev sc 45 87 [l0, l1, l2] [.int x] h post = post (some (.int x)) h := e_r (e := (87, .ireturn, 0, 0)) (by decide +kernel) rfl rfl
-- 46 X3_mergeViews (II)I
theorem s46_e {a0 : Nat} {a1 : Int32} {a2 : Int32} {h : AHp} {post : Option Value → AHp → Prop} : Call 46 [.ref a0, .int a1, .int a2] h post = Ev none 46 0 [.ref a0, .int a1, .int a2, .long 0] [] h post := rfl
theorem s46_0 {sc : Scr} {l1 l2 l3 : Value} {x : Nat} {stk : List Value} {h : AHp} {post : Option Value → AHp → Prop} : Ev sc 46 0 [.ref x, l1, l2, l3] stk h post = Ev sc 46 1 [.ref x, l1, l2, l3] (.ref x :: stk) h post := e_1 (e := (0, .aload_n 0, 0, 0)) (q := (1, [.ref x, l1, l2, l3], (.ref x :: stk), h)) (by decide +kernel) rfl rfl
theorem s46_1 {sc : Scr} {l0 l2 l3 : Value} {x : Int32} {stk : List Value} {h : AHp} {post : Option Value → AHp → Prop} : Ev sc 46 1 [l0, .int x, l2, l3] stk h post = Ev sc 46 2 [l0, .int x, l2, l3] (.int x :: stk) h post := e_1 (e := (1, .iload_n 1, 0, 0)) (q := (2, [l0, .int x, l2, l3], (.int x :: stk), h)) (by decide +kernel) rfl rfl
theorem s46_2 {sc : Scr} {l0 l1 l2 l3 : Value} {a0 : Int32}  {x : Nat} {h : AHp} {post : Option Value → AHp → Prop} (ho : isO h x 3) : Ev sc 46 2 [l0, l1, l2, l3] [.int a0, .ref x] h post = Call 27 [.ref x, .int a0] h (fun rv h2 => Ev sc 46 5 [l0, l1, l2, l3] (rv.toList ++ []) h2 post) := e_v (i := 88) (z := 27) (r2 := 0) (as := [.int a0]) (rest := []) (by decide +kernel) rfl rfl (Nat.le_of_ble_eq_true rfl) rfl ho
theorem s46_5 {sc : Scr} {l0 l1 l2 l3 : Value} {x : Int32} {stk : List Value} {h : AHp} {post : Option Value → AHp → Prop} : Ev sc 46 5 [l0, l1, l2, l3] (.int x :: stk) h post = (if x = 0 then Ev sc 46 21 [l0, l1, l2, l3] stk h post else Ev sc 46 8 [l0, l1, l2, l3] stk h post) := e_if_eq (o := 16) (r1 := 0) (r2 := 0) 21 (by decide +kernel) rfl
theorem s46_8 {sc : Scr} {l1 l2 l3 : Value} {x : Nat} {stk : List Value} {h : AHp} {post : Option Value → AHp → Prop} : Ev sc 46 8 [.ref x, l1, l2, l3] stk h post = Ev sc 46 9 [.ref x, l1, l2, l3] (.ref x :: stk) h post := e_1 (e := (8, .aload_n 0, 0, 0)) (q := (9, [.ref x, l1, l2, l3], (.ref x :: stk), h)) (by decide +kernel) rfl rfl
theorem s46_9 {sc : Scr} {l0 l1 l3 : Value} {x : Int32} {stk : List Value} {h : AHp} {post : Option Value → AHp → Prop} : Ev sc 46 9 [l0, l1, .int x, l3] stk h post = Ev sc 46 10 [l0, l1, .int x, l3] (.int x :: stk) h post := e_1 (e := (9, .iload_n 2, 0, 0)) (q := (10, [l0, l1, .int x, l3], (.int x :: stk), h)) (by decide +kernel) rfl rfl
theorem s46_10 {sc : Scr} {l0 l1 l2 l3 : Value} {a0 : Int32}  {x : Nat} {h : AHp} {post : Option Value → AHp → Prop} (ho : isO h x 3) : Ev sc 46 10 [l0, l1, l2, l3] [.int a0, .ref x] h post = Call 27 [.ref x, .int a0] h (fun rv h2 => Ev sc 46 13 [l0, l1, l2, l3] (rv.toList ++ []) h2 post) := e_v (i := 88) (z := 27) (r2 := 0) (as := [.int a0]) (rest := []) (by decide +kernel) rfl rfl (Nat.le_of_ble_eq_true rfl) rfl ho
theorem s46_13 {sc : Scr} {l0 l1 l2 l3 : Value} {x : Int32} {stk : List Value} {h : AHp} {post : Option Value → AHp → Prop} : Ev sc 46 13 [l0, l1, l2, l3] (.int x :: stk) h post = (if x = 0 then Ev sc 46 21 [l0, l1, l2, l3] stk h post else Ev sc 46 16 [l0, l1, l2, l3] stk h post) := e_if_eq (o := 8) (r1 := 0) (r2 := 0) 21 (by decide +kernel) rfl
theorem s46_16 {sc : Scr} {l0 l2 l3 : Value} {x : Int32} {stk : List Value} {h : AHp} {post : Option Value → AHp → Prop} : Ev sc 46 16 [l0, .int x, l2, l3] stk h post = Ev sc 46 17 [l0, .int x, l2, l3] (.int x :: stk) h post := e_1 (e := (16, .iload_n 1, 0, 0)) (q := (17, [l0, .int x, l2, l3], (.int x :: stk), h)) (by decide +kernel) rfl rfl
theorem s46_17 {sc : Scr} {l0 l1 l3 : Value} {x : Int32} {stk : List Value} {h : AHp} {post : Option Value → AHp → Prop} : Ev sc 46 17 [l0, l1, .int x, l3] stk h post = Ev sc 46 18 [l0, l1, .int x, l3] (.int x :: stk) h post := e_1 (e := (17, .iload_n 2, 0, 0)) (q := (18, [l0, l1, .int x, l3], (.int x :: stk), h)) (by decide +kernel) rfl rfl
theorem s46_18 {sc : Scr} {l0 l1 l2 l3 : Value} {x z : Int32} {stk : List Value} {h : AHp} {post : Option Value → AHp → Prop} : Ev sc 46 18 [l0, l1, l2, l3] (.int z :: .int x :: stk) h post = (if ¬ x = z then Ev sc 46 24 [l0, l1, l2, l3] stk h post else Ev sc 46 21 [l0, l1, l2, l3] stk h post) := e_icmp_ne (o := 6) (r1 := 0) (r2 := 0) 24 (by decide +kernel) rfl
theorem s46_21 {sc : Scr} {l0 l1 l2 l3 : Value}  {stk : List Value} {h : AHp} {post : Option Value → AHp → Prop} : Ev sc 46 21 [l0, l1, l2, l3] stk h post = Ev sc 46 23 [l0, l1, l2, l3] (.int (-2000000001) :: stk) h post := e_1 (e := (21, .ldc 107, 0, -2000000001)) (q := (23, [l0, l1, l2, l3], (.int (-2000000001) :: stk), h)) (by decide +kernel) rfl rfl
theorem s46_23 {sc : Scr} {l0 l1 l2 l3 : Value} {x : Int32} {h : AHp} {post : Option Value → AHp → Prop} : Ev sc 46 23 [l0, l1, l2, l3] [.int x] h post = post (some (.int x)) h := e_r (e := (23, .ireturn, 0, 0)) (by decide +kernel) rfl rfl
theorem s46_24 {sc : Scr} {l1 l2 l3 : Value} {x : Nat} {stk : List Value} {h : AHp} {post : Option Value → AHp → Prop} : Ev sc 46 24 [.ref x, l1, l2, l3] stk h post = Ev sc 46 25 [.ref x, l1, l2, l3] (.ref x :: stk) h post := e_1 (e := (24, .aload_n 0, 0, 0)) (q := (25, [.ref x, l1, l2, l3], (.ref x :: stk), h)) (by decide +kernel) rfl rfl
theorem s46_25 {sc : Scr} {l0 l1 l2 l3 : Value} {x : Nat} {stk : List Value} {h : AHp} {post : Option Value → AHp → Prop} : Ev sc 46 25 [l0, l1, l2, l3] (.ref x :: stk) h post = oB (fldv h x 3 0) (fun v => Ev sc 46 28 [l0, l1, l2, l3] (v :: stk) h post) := e_get (i := 11) (r1 := 3) (r2 := 0) (by decide +kernel)
theorem s46_28 {sc : Scr} {l0 l2 l3 : Value} {x : Int32} {stk : List Value} {h : AHp} {post : Option Value → AHp → Prop} : Ev sc 46 28 [l0, .int x, l2, l3] stk h post = Ev sc 46 29 [l0, .int x, l2, l3] (.int x :: stk) h post := e_1 (e := (28, .iload_n 1, 0, 0)) (q := (29, [l0, .int x, l2, l3], (.int x :: stk), h)) (by decide +kernel) rfl rfl
theorem s46_29 {sc : Scr} {l0 l1 l2 l3 : Value} {x : Nat} {j : Int32} {stk : List Value} {h : AHp} {post : Option Value → AHp → Prop} : Ev sc 46 29 [l0, l1, l2, l3] (.int j :: .ref x :: stk) h post = oB (ldq h x j) (fun v => Ev sc 46 30 [l0, l1, l2, l3] (v :: stk) h post) := e_ldq (r1 := 0) (r2 := 0) (by decide +kernel)
theorem s46_30 {sc : Scr} {l1 l2 l3 : Value} {x : Nat} {stk : List Value} {h : AHp} {post : Option Value → AHp → Prop} : Ev sc 46 30 [.ref x, l1, l2, l3] stk h post = Ev sc 46 31 [.ref x, l1, l2, l3] (.ref x :: stk) h post := e_1 (e := (30, .aload_n 0, 0, 0)) (q := (31, [.ref x, l1, l2, l3], (.ref x :: stk), h)) (by decide +kernel) rfl rfl
theorem s46_31 {sc : Scr} {l0 l1 l2 l3 : Value} {x : Nat} {stk : List Value} {h : AHp} {post : Option Value → AHp → Prop} : Ev sc 46 31 [l0, l1, l2, l3] (.ref x :: stk) h post = oB (fldv h x 3 0) (fun v => Ev sc 46 34 [l0, l1, l2, l3] (v :: stk) h post) := e_get (i := 11) (r1 := 3) (r2 := 0) (by decide +kernel)
theorem s46_34 {sc : Scr} {l0 l1 l3 : Value} {x : Int32} {stk : List Value} {h : AHp} {post : Option Value → AHp → Prop} : Ev sc 46 34 [l0, l1, .int x, l3] stk h post = Ev sc 46 35 [l0, l1, .int x, l3] (.int x :: stk) h post := e_1 (e := (34, .iload_n 2, 0, 0)) (q := (35, [l0, l1, .int x, l3], (.int x :: stk), h)) (by decide +kernel) rfl rfl
theorem s46_35 {sc : Scr} {l0 l1 l2 l3 : Value} {x : Nat} {j : Int32} {stk : List Value} {h : AHp} {post : Option Value → AHp → Prop} : Ev sc 46 35 [l0, l1, l2, l3] (.int j :: .ref x :: stk) h post = oB (ldq h x j) (fun v => Ev sc 46 36 [l0, l1, l2, l3] (v :: stk) h post) := e_ldq (r1 := 0) (r2 := 0) (by decide +kernel)
theorem s46_36 {sc : Scr} {l0 l1 l2 l3 : Value} {a0 : Nat}  {x : Nat} {h : AHp} {post : Option Value → AHp → Prop} (ho : isO h x 0) : Ev sc 46 36 [l0, l1, l2, l3] [.ref a0, .ref x] h post = Call 8 [.ref x, .ref a0] h (fun rv h2 => Ev sc 46 39 [l0, l1, l2, l3] (rv.toList ++ []) h2 post) := e_v (i := 141) (z := 8) (r2 := 0) (as := [.ref a0]) (rest := []) (by decide +kernel) rfl rfl (Nat.le_of_ble_eq_true rfl) rfl ho
theorem s46_39 {sc : Scr} {l0 l1 l2 l3 : Value} {x : Int32} {stk : List Value} {h : AHp} {post : Option Value → AHp → Prop} : Ev sc 46 39 [l0, l1, l2, l3] (.int x :: stk) h post = Ev sc 46 40 [l0, l1, l2, .int x] stk h post := e_1 (e := (39, .istore_n 3, 0, 0)) (q := (40, [l0, l1, l2, .int x], stk, h)) (by decide +kernel) rfl rfl
theorem s46_40 {sc : Scr} {l1 l2 l3 : Value} {x : Nat} {stk : List Value} {h : AHp} {post : Option Value → AHp → Prop} : Ev sc 46 40 [.ref x, l1, l2, l3] stk h post = Ev sc 46 41 [.ref x, l1, l2, l3] (.ref x :: stk) h post := e_1 (e := (40, .aload_n 0, 0, 0)) (q := (41, [.ref x, l1, l2, l3], (.ref x :: stk), h)) (by decide +kernel) rfl rfl
theorem s46_41 {sc : Scr} {l0 l1 l2 l3 : Value} {x : Nat} {stk : List Value} {h : AHp} {post : Option Value → AHp → Prop} : Ev sc 46 41 [l0, l1, l2, l3] (.ref x :: stk) h post = Ev sc 46 42 [l0, l1, l2, l3] (.ref x :: .ref x :: stk) h post := e_1 (e := (41, .dup, 0, 0)) (q := (42, [l0, l1, l2, l3], (.ref x :: .ref x :: stk), h)) (by decide +kernel) rfl rfl
theorem s46_42 {sc : Scr} {l0 l1 l2 l3 : Value} {x : Nat} {stk : List Value} {h : AHp} {post : Option Value → AHp → Prop} : Ev sc 46 42 [l0, l1, l2, l3] (.ref x :: stk) h post = oB (fldv h x 3 10) (fun v => Ev sc 46 45 [l0, l1, l2, l3] (v :: stk) h post) := e_get (i := 49) (r1 := 3) (r2 := 10) (by decide +kernel)
theorem s46_45 {sc : Scr} {l0 l1 l2 : Value} {x : Int32} {stk : List Value} {h : AHp} {post : Option Value → AHp → Prop} : Ev sc 46 45 [l0, l1, l2, .int x] stk h post = Ev sc 46 46 [l0, l1, l2, .int x] (.int x :: stk) h post := e_1 (e := (45, .iload_n 3, 0, 0)) (q := (46, [l0, l1, l2, .int x], (.int x :: stk), h)) (by decide +kernel) rfl rfl
theorem s46_46 {sc : Scr} {l0 l1 l2 l3 : Value} {x z : Int32} {stk : List Value} {h : AHp} {post : Option Value → AHp → Prop} : Ev sc 46 46 [l0, l1, l2, l3] (.int z :: .int x :: stk) h post = Ev sc 46 47 [l0, l1, l2, l3] (.int (x + z) :: stk) h post := e_1 (e := (46, .iadd, 0, 0)) (q := (47, [l0, l1, l2, l3], (.int (x + z) :: stk), h)) (by decide +kernel) rfl rfl
theorem s46_47 {sc : Scr} {l0 l1 l2 l3 : Value} {x : Nat} {v : Int32} {stk : List Value} {h : AHp} {post : Option Value → AHp → Prop} : Ev sc 46 47 [l0, l1, l2, l3] (.int v :: .ref x :: stk) h post = oB (stf h x 3 10 (.int v)) (fun h2 => Ev sc 46 50 [l0, l1, l2, l3] stk h2 post) := e_put (i := 49) (r1 := 3) (r2 := 10) (by decide +kernel)
theorem s46_50 {sc : Scr} {l0 l1 l2 : Value} {x : Int32} {stk : List Value} {h : AHp} {post : Option Value → AHp → Prop} : Ev sc 46 50 [l0, l1, l2, .int x] stk h post = Ev sc 46 51 [l0, l1, l2, .int x] (.int x :: stk) h post := e_1 (e := (50, .iload_n 3, 0, 0)) (q := (51, [l0, l1, l2, .int x], (.int x :: stk), h)) (by decide +kernel) rfl rfl
theorem s46_51 {sc : Scr} {l0 l1 l2 l3 : Value} {x : Int32} {h : AHp} {post : Option Value → AHp → Prop} : Ev sc 46 51 [l0, l1, l2, l3] [.int x] h post = post (some (.int x)) h := e_r (e := (51, .ireturn, 0, 0)) (by decide +kernel) rfl rfl
-- 47 X3_postLetter (III)I
theorem s47_e {a0 : Nat} {a1 : Int32} {a2 : Int32} {a3 : Int32} {h : AHp} {post : Option Value → AHp → Prop} : Call 47 [.ref a0, .int a1, .int a2, .int a3] h post = Ev none 47 0 [.ref a0, .int a1, .int a2, .int a3, .long 0] [] h post := rfl
theorem s47_0 {sc : Scr} {l1 l2 l3 l4 : Value} {x : Nat} {stk : List Value} {h : AHp} {post : Option Value → AHp → Prop} : Ev sc 47 0 [.ref x, l1, l2, l3, l4] stk h post = Ev sc 47 1 [.ref x, l1, l2, l3, l4] (.ref x :: stk) h post := e_1 (e := (0, .aload_n 0, 0, 0)) (q := (1, [.ref x, l1, l2, l3, l4], (.ref x :: stk), h)) (by decide +kernel) rfl rfl
theorem s47_1 {sc : Scr} {l0 l2 l3 l4 : Value} {x : Int32} {stk : List Value} {h : AHp} {post : Option Value → AHp → Prop} : Ev sc 47 1 [l0, .int x, l2, l3, l4] stk h post = Ev sc 47 2 [l0, .int x, l2, l3, l4] (.int x :: stk) h post := e_1 (e := (1, .iload_n 1, 0, 0)) (q := (2, [l0, .int x, l2, l3, l4], (.int x :: stk), h)) (by decide +kernel) rfl rfl
theorem s47_2 {sc : Scr} {l0 l1 l2 l3 l4 : Value} {a0 : Int32}  {x : Nat} {h : AHp} {post : Option Value → AHp → Prop} (ho : isO h x 3) : Ev sc 47 2 [l0, l1, l2, l3, l4] [.int a0, .ref x] h post = Call 27 [.ref x, .int a0] h (fun rv h2 => Ev sc 47 5 [l0, l1, l2, l3, l4] (rv.toList ++ []) h2 post) := e_v (i := 88) (z := 27) (r2 := 0) (as := [.int a0]) (rest := []) (by decide +kernel) rfl rfl (Nat.le_of_ble_eq_true rfl) rfl ho
theorem s47_5 {sc : Scr} {l0 l1 l2 l3 l4 : Value} {x : Int32} {stk : List Value} {h : AHp} {post : Option Value → AHp → Prop} : Ev sc 47 5 [l0, l1, l2, l3, l4] (.int x :: stk) h post = (if x = 0 then Ev sc 47 31 [l0, l1, l2, l3, l4] stk h post else Ev sc 47 8 [l0, l1, l2, l3, l4] stk h post) := e_if_eq (o := 26) (r1 := 0) (r2 := 0) 31 (by decide +kernel) rfl
theorem s47_8 {sc : Scr} {l1 l2 l3 l4 : Value} {x : Nat} {stk : List Value} {h : AHp} {post : Option Value → AHp → Prop} : Ev sc 47 8 [.ref x, l1, l2, l3, l4] stk h post = Ev sc 47 9 [.ref x, l1, l2, l3, l4] (.ref x :: stk) h post := e_1 (e := (8, .aload_n 0, 0, 0)) (q := (9, [.ref x, l1, l2, l3, l4], (.ref x :: stk), h)) (by decide +kernel) rfl rfl
theorem s47_9 {sc : Scr} {l0 l1 l3 l4 : Value} {x : Int32} {stk : List Value} {h : AHp} {post : Option Value → AHp → Prop} : Ev sc 47 9 [l0, l1, .int x, l3, l4] stk h post = Ev sc 47 10 [l0, l1, .int x, l3, l4] (.int x :: stk) h post := e_1 (e := (9, .iload_n 2, 0, 0)) (q := (10, [l0, l1, .int x, l3, l4], (.int x :: stk), h)) (by decide +kernel) rfl rfl
theorem s47_10 {sc : Scr} {l0 l1 l2 l3 l4 : Value} {a0 : Int32}  {x : Nat} {h : AHp} {post : Option Value → AHp → Prop} (ho : isO h x 3) : Ev sc 47 10 [l0, l1, l2, l3, l4] [.int a0, .ref x] h post = Call 27 [.ref x, .int a0] h (fun rv h2 => Ev sc 47 13 [l0, l1, l2, l3, l4] (rv.toList ++ []) h2 post) := e_v (i := 88) (z := 27) (r2 := 0) (as := [.int a0]) (rest := []) (by decide +kernel) rfl rfl (Nat.le_of_ble_eq_true rfl) rfl ho
theorem s47_13 {sc : Scr} {l0 l1 l2 l3 l4 : Value} {x : Int32} {stk : List Value} {h : AHp} {post : Option Value → AHp → Prop} : Ev sc 47 13 [l0, l1, l2, l3, l4] (.int x :: stk) h post = (if x = 0 then Ev sc 47 31 [l0, l1, l2, l3, l4] stk h post else Ev sc 47 16 [l0, l1, l2, l3, l4] stk h post) := e_if_eq (o := 18) (r1 := 0) (r2 := 0) 31 (by decide +kernel) rfl
theorem s47_16 {sc : Scr} {l0 l2 l3 l4 : Value} {x : Int32} {stk : List Value} {h : AHp} {post : Option Value → AHp → Prop} : Ev sc 47 16 [l0, .int x, l2, l3, l4] stk h post = Ev sc 47 17 [l0, .int x, l2, l3, l4] (.int x :: stk) h post := e_1 (e := (16, .iload_n 1, 0, 0)) (q := (17, [l0, .int x, l2, l3, l4], (.int x :: stk), h)) (by decide +kernel) rfl rfl
theorem s47_17 {sc : Scr} {l0 l1 l3 l4 : Value} {x : Int32} {stk : List Value} {h : AHp} {post : Option Value → AHp → Prop} : Ev sc 47 17 [l0, l1, .int x, l3, l4] stk h post = Ev sc 47 18 [l0, l1, .int x, l3, l4] (.int x :: stk) h post := e_1 (e := (17, .iload_n 2, 0, 0)) (q := (18, [l0, l1, .int x, l3, l4], (.int x :: stk), h)) (by decide +kernel) rfl rfl
theorem s47_18 {sc : Scr} {l0 l1 l2 l3 l4 : Value} {x z : Int32} {stk : List Value} {h : AHp} {post : Option Value → AHp → Prop} : Ev sc 47 18 [l0, l1, l2, l3, l4] (.int z :: .int x :: stk) h post = (if x = z then Ev sc 47 31 [l0, l1, l2, l3, l4] stk h post else Ev sc 47 21 [l0, l1, l2, l3, l4] stk h post) := e_icmp_eq (o := 13) (r1 := 0) (r2 := 0) 31 (by decide +kernel) rfl
theorem s47_21 {sc : Scr} {l0 l1 l2 l4 : Value} {x : Int32} {stk : List Value} {h : AHp} {post : Option Value → AHp → Prop} : Ev sc 47 21 [l0, l1, l2, .int x, l4] stk h post = Ev sc 47 22 [l0, l1, l2, .int x, l4] (.int x :: stk) h post := e_1 (e := (21, .iload_n 3, 0, 0)) (q := (22, [l0, l1, l2, .int x, l4], (.int x :: stk), h)) (by decide +kernel) rfl rfl
theorem s47_22 {sc : Scr} {l0 l1 l2 l3 l4 : Value}  {stk : List Value} {h : AHp} {post : Option Value → AHp → Prop} : Ev sc 47 22 [l0, l1, l2, l3, l4] stk h post = Ev sc 47 23 [l0, l1, l2, l3, l4] (.int (1) :: stk) h post := e_1 (e := (22, .iconst 1, 0, 0)) (q := (23, [l0, l1, l2, l3, l4], (.int (1) :: stk), h)) (by decide +kernel) rfl rfl
theorem s47_23 {sc : Scr} {l0 l1 l2 l3 l4 : Value}  {stk : List Value} {h : AHp} {post : Option Value → AHp → Prop} : Ev sc 47 23 [l0, l1, l2, l3, l4] stk h post = Ev sc 47 25 [l0, l1, l2, l3, l4] (.int (99) :: stk) h post := e_1 (e := (23, .bipush 99, 0, 0)) (q := (25, [l0, l1, l2, l3, l4], (.int (99) :: stk), h)) (by decide +kernel) rfl rfl
theorem s47_25 {sc : Scr} {l0 l1 l2 l3 l4 : Value} {a0 : Int32} {a1 : Int32} {a2 : Int32}  {h : AHp} {post : Option Value → AHp → Prop} : Ev sc 47 25 [l0, l1, l2, l3, l4] [.int a0, .int a1, .int a2] h post = Call 85 [.int a2, .int a1, .int a0] h (fun rv h2 => Ev sc 47 28 [l0, l1, l2, l3, l4] (rv.toList ++ []) h2 post) := e_s (i := 67) (z := 85) (r2 := 1) (as := [.int a2, .int a1, .int a0]) (rest := []) (by decide +kernel) rfl rfl rfl (Nat.le_of_ble_eq_true rfl) rfl
theorem s47_28 {sc : Scr} {l0 l1 l2 l3 l4 : Value} {x : Int32} {stk : List Value} {h : AHp} {post : Option Value → AHp → Prop} : Ev sc 47 28 [l0, l1, l2, l3, l4] (.int x :: stk) h post = (if ¬ x = 0 then Ev sc 47 34 [l0, l1, l2, l3, l4] stk h post else Ev sc 47 31 [l0, l1, l2, l3, l4] stk h post) := e_if_ne (o := 6) (r1 := 0) (r2 := 0) 34 (by decide +kernel) rfl
theorem s47_31 {sc : Scr} {l0 l1 l2 l3 l4 : Value}  {stk : List Value} {h : AHp} {post : Option Value → AHp → Prop} : Ev sc 47 31 [l0, l1, l2, l3, l4] stk h post = Ev sc 47 33 [l0, l1, l2, l3, l4] (.int (-2000000001) :: stk) h post := e_1 (e := (31, .ldc 107, 0, -2000000001)) (q := (33, [l0, l1, l2, l3, l4], (.int (-2000000001) :: stk), h)) (by decide +kernel) rfl rfl
theorem s47_33 {sc : Scr} {l0 l1 l2 l3 l4 : Value} {x : Int32} {h : AHp} {post : Option Value → AHp → Prop} : Ev sc 47 33 [l0, l1, l2, l3, l4] [.int x] h post = post (some (.int x)) h := e_r (e := (33, .ireturn, 0, 0)) (by decide +kernel) rfl rfl
theorem s47_34 {sc : Scr} {l1 l2 l3 l4 : Value} {x : Nat} {stk : List Value} {h : AHp} {post : Option Value → AHp → Prop} : Ev sc 47 34 [.ref x, l1, l2, l3, l4] stk h post = Ev sc 47 35 [.ref x, l1, l2, l3, l4] (.ref x :: stk) h post := e_1 (e := (34, .aload_n 0, 0, 0)) (q := (35, [.ref x, l1, l2, l3, l4], (.ref x :: stk), h)) (by decide +kernel) rfl rfl
theorem s47_35 {sc : Scr} {l0 l1 l2 l3 l4 : Value} {x : Nat} {stk : List Value} {h : AHp} {post : Option Value → AHp → Prop} : Ev sc 47 35 [l0, l1, l2, l3, l4] (.ref x :: stk) h post = oB (fldv h x 3 6) (fun v => Ev sc 47 38 [l0, l1, l2, l3, l4] (v :: stk) h post) := e_get (i := 37) (r1 := 3) (r2 := 6) (by decide +kernel)
theorem s47_38 {sc : Scr} {l0 l1 l2 l3 l4 : Value}  {stk : List Value} {h : AHp} {post : Option Value → AHp → Prop} : Ev sc 47 38 [l0, l1, l2, l3, l4] stk h post = Ev sc 47 40 [l0, l1, l2, l3, l4] (.int (8) :: stk) h post := e_1 (e := (38, .bipush 8, 0, 0)) (q := (40, [l0, l1, l2, l3, l4], (.int (8) :: stk), h)) (by decide +kernel) rfl rfl
theorem s47_40 {sc : Scr} {l0 l1 l2 l3 l4 : Value} {x z : Int32} {stk : List Value} {h : AHp} {post : Option Value → AHp → Prop} : Ev sc 47 40 [l0, l1, l2, l3, l4] (.int z :: .int x :: stk) h post = (if x < z then Ev sc 47 46 [l0, l1, l2, l3, l4] stk h post else Ev sc 47 43 [l0, l1, l2, l3, l4] stk h post) := e_icmp_lt (o := 6) (r1 := 0) (r2 := 0) 46 (by decide +kernel) rfl
theorem s47_43 {sc : Scr} {l0 l1 l2 l3 l4 : Value}  {stk : List Value} {h : AHp} {post : Option Value → AHp → Prop} : Ev sc 47 43 [l0, l1, l2, l3, l4] stk h post = Ev sc 47 45 [l0, l1, l2, l3, l4] (.int (-2000000003) :: stk) h post := e_1 (e := (43, .ldc 108, 0, -2000000003)) (q := (45, [l0, l1, l2, l3, l4], (.int (-2000000003) :: stk), h)) (by decide +kernel) rfl rfl
theorem s47_45 {sc : Scr} {l0 l1 l2 l3 l4 : Value} {x : Int32} {h : AHp} {post : Option Value → AHp → Prop} : Ev sc 47 45 [l0, l1, l2, l3, l4] [.int x] h post = post (some (.int x)) h := e_r (e := (45, .ireturn, 0, 0)) (by decide +kernel) rfl rfl
theorem s47_46 {sc : Scr} {l1 l2 l3 l4 : Value} {x : Nat} {stk : List Value} {h : AHp} {post : Option Value → AHp → Prop} : Ev sc 47 46 [.ref x, l1, l2, l3, l4] stk h post = Ev sc 47 47 [.ref x, l1, l2, l3, l4] (.ref x :: stk) h post := e_1 (e := (46, .aload_n 0, 0, 0)) (q := (47, [.ref x, l1, l2, l3, l4], (.ref x :: stk), h)) (by decide +kernel) rfl rfl
theorem s47_47 {sc : Scr} {l1 l2 l3 l4 : Value} {x : Nat} {stk : List Value} {h : AHp} {post : Option Value → AHp → Prop} : Ev sc 47 47 [.ref x, l1, l2, l3, l4] stk h post = Ev sc 47 48 [.ref x, l1, l2, l3, l4] (.ref x :: stk) h post := e_1 (e := (47, .aload_n 0, 0, 0)) (q := (48, [.ref x, l1, l2, l3, l4], (.ref x :: stk), h)) (by decide +kernel) rfl rfl
theorem s47_48 {sc : Scr} {l0 l1 l2 l3 l4 : Value} {x : Nat} {stk : List Value} {h : AHp} {post : Option Value → AHp → Prop} : Ev sc 47 48 [l0, l1, l2, l3, l4] (.ref x :: stk) h post = oB (fldv h x 3 7) (fun v => Ev sc 47 51 [l0, l1, l2, l3, l4] (v :: stk) h post) := e_get (i := 40) (r1 := 3) (r2 := 7) (by decide +kernel)
theorem s47_51 {sc : Scr} {l0 l1 l2 l4 : Value} {x : Int32} {stk : List Value} {h : AHp} {post : Option Value → AHp → Prop} : Ev sc 47 51 [l0, l1, l2, .int x, l4] stk h post = Ev sc 47 52 [l0, l1, l2, .int x, l4] (.int x :: stk) h post := e_1 (e := (51, .iload_n 3, 0, 0)) (q := (52, [l0, l1, l2, .int x, l4], (.int x :: stk), h)) (by decide +kernel) rfl rfl
theorem s47_52 {sc : Scr} {l0 l1 l2 l3 l4 : Value} {x z : Int32} {stk : List Value} {h : AHp} {post : Option Value → AHp → Prop} : Ev sc 47 52 [l0, l1, l2, l3, l4] (.int z :: .int x :: stk) h post = Ev sc 47 53 [l0, l1, l2, l3, l4] (.int (x + z) :: stk) h post := e_1 (e := (52, .iadd, 0, 0)) (q := (53, [l0, l1, l2, l3, l4], (.int (x + z) :: stk), h)) (by decide +kernel) rfl rfl
theorem s47_53 {sc : Scr} {l0 l1 l2 l3 l4 : Value} {a0 : Int32}  {x : Nat} {h : AHp} {post : Option Value → AHp → Prop} (ho : isO h x 3) : Ev sc 47 53 [l0, l1, l2, l3, l4] [.int a0, .ref x] h post = Call 48 [.ref x, .int a0] h (fun rv h2 => Ev sc 47 56 [l0, l1, l2, l3, l4] (rv.toList ++ []) h2 post) := e_v (i := 145) (z := 48) (r2 := 0) (as := [.int a0]) (rest := []) (by decide +kernel) rfl rfl (Nat.le_of_ble_eq_true rfl) rfl ho
theorem s47_56 {sc : Scr} {l0 l1 l2 l3 l4 : Value} {x : Nat} {stk : List Value} {h : AHp} {post : Option Value → AHp → Prop} : Ev sc 47 56 [l0, l1, l2, l3, l4] (.ref x :: stk) h post = Ev sc 47 58 [l0, l1, l2, l3, .ref x] stk h post := e_1 (e := (56, .astore 4, 0, 0)) (q := (58, [l0, l1, l2, l3, .ref x], stk, h)) (by decide +kernel) rfl rfl
theorem s47_58 {sc : Scr} {l0 l1 l2 l3 : Value} {x : Nat} {stk : List Value} {h : AHp} {post : Option Value → AHp → Prop} : Ev sc 47 58 [l0, l1, l2, l3, .ref x] stk h post = Ev sc 47 60 [l0, l1, l2, l3, .ref x] (.ref x :: stk) h post := e_1 (e := (58, .aload 4, 0, 0)) (q := (60, [l0, l1, l2, l3, .ref x], (.ref x :: stk), h)) (by decide +kernel) rfl rfl
theorem s47_60 {sc : Scr} {l0 l2 l3 l4 : Value} {x : Int32} {stk : List Value} {h : AHp} {post : Option Value → AHp → Prop} : Ev sc 47 60 [l0, .int x, l2, l3, l4] stk h post = Ev sc 47 61 [l0, .int x, l2, l3, l4] (.int x :: stk) h post := e_1 (e := (60, .iload_n 1, 0, 0)) (q := (61, [l0, .int x, l2, l3, l4], (.int x :: stk), h)) (by decide +kernel) rfl rfl
theorem s47_61 {sc : Scr} {l0 l1 l2 l3 l4 : Value} {x : Nat} {v : Int32} {stk : List Value} {h : AHp} {post : Option Value → AHp → Prop} : Ev sc 47 61 [l0, l1, l2, l3, l4] (.int v :: .ref x :: stk) h post = oB (stf h x 1 0 (.int v)) (fun h2 => Ev sc 47 64 [l0, l1, l2, l3, l4] stk h2 post) := e_put (i := 149) (r1 := 1) (r2 := 0) (by decide +kernel)
theorem s47_64 {sc : Scr} {l0 l1 l2 l3 : Value} {x : Nat} {stk : List Value} {h : AHp} {post : Option Value → AHp → Prop} : Ev sc 47 64 [l0, l1, l2, l3, .ref x] stk h post = Ev sc 47 66 [l0, l1, l2, l3, .ref x] (.ref x :: stk) h post := e_1 (e := (64, .aload 4, 0, 0)) (q := (66, [l0, l1, l2, l3, .ref x], (.ref x :: stk), h)) (by decide +kernel) rfl rfl
theorem s47_66 {sc : Scr} {l0 l1 l3 l4 : Value} {x : Int32} {stk : List Value} {h : AHp} {post : Option Value → AHp → Prop} : Ev sc 47 66 [l0, l1, .int x, l3, l4] stk h post = Ev sc 47 67 [l0, l1, .int x, l3, l4] (.int x :: stk) h post := e_1 (e := (66, .iload_n 2, 0, 0)) (q := (67, [l0, l1, .int x, l3, l4], (.int x :: stk), h)) (by decide +kernel) rfl rfl
theorem s47_67 {sc : Scr} {l0 l1 l2 l3 l4 : Value} {x : Nat} {v : Int32} {stk : List Value} {h : AHp} {post : Option Value → AHp → Prop} : Ev sc 47 67 [l0, l1, l2, l3, l4] (.int v :: .ref x :: stk) h post = oB (stf h x 1 1 (.int v)) (fun h2 => Ev sc 47 70 [l0, l1, l2, l3, l4] stk h2 post) := e_put (i := 134) (r1 := 1) (r2 := 1) (by decide +kernel)
theorem s47_70 {sc : Scr} {l0 l1 l2 l3 : Value} {x : Nat} {stk : List Value} {h : AHp} {post : Option Value → AHp → Prop} : Ev sc 47 70 [l0, l1, l2, l3, .ref x] stk h post = Ev sc 47 72 [l0, l1, l2, l3, .ref x] (.ref x :: stk) h post := e_1 (e := (70, .aload 4, 0, 0)) (q := (72, [l0, l1, l2, l3, .ref x], (.ref x :: stk), h)) (by decide +kernel) rfl rfl
theorem s47_72 {sc : Scr} {l0 l1 l2 l3 l4 : Value}  {stk : List Value} {h : AHp} {post : Option Value → AHp → Prop} : Ev sc 47 72 [l0, l1, l2, l3, l4] stk h post = Ev sc 47 73 [l0, l1, l2, l3, l4] (.int (0) :: stk) h post := e_1 (e := (72, .iconst 0, 0, 0)) (q := (73, [l0, l1, l2, l3, l4], (.int (0) :: stk), h)) (by decide +kernel) rfl rfl
theorem s47_73 {sc : Scr} {l0 l1 l2 l3 l4 : Value} {x : Nat} {v : Int32} {stk : List Value} {h : AHp} {post : Option Value → AHp → Prop} : Ev sc 47 73 [l0, l1, l2, l3, l4] (.int v :: .ref x :: stk) h post = oB (stf h x 1 3 (.int v)) (fun h2 => Ev sc 47 76 [l0, l1, l2, l3, l4] stk h2 post) := e_put (i := 137) (r1 := 1) (r2 := 3) (by decide +kernel)
theorem s47_76 {sc : Scr} {l0 l1 l2 l3 : Value} {x : Nat} {stk : List Value} {h : AHp} {post : Option Value → AHp → Prop} : Ev sc 47 76 [l0, l1, l2, l3, .ref x] stk h post = Ev sc 47 78 [l0, l1, l2, l3, .ref x] (.ref x :: stk) h post := e_1 (e := (76, .aload 4, 0, 0)) (q := (78, [l0, l1, l2, l3, .ref x], (.ref x :: stk), h)) (by decide +kernel) rfl rfl
theorem s47_78 {sc : Scr} {l0 l1 l2 l3 l4 : Value} {x : Nat} {stk : List Value} {h : AHp} {post : Option Value → AHp → Prop} : Ev sc 47 78 [l0, l1, l2, l3, l4] (.ref x :: stk) h post = oB (fldv h x 1 4) (fun v => Ev sc 47 81 [l0, l1, l2, l3, l4] (v :: stk) h post) := e_get (i := 152) (r1 := 1) (r2 := 4) (by decide +kernel)
theorem s47_81 {sc : Scr} {l1 l2 l3 l4 : Value} {x : Nat} {stk : List Value} {h : AHp} {post : Option Value → AHp → Prop} : Ev sc 47 81 [.ref x, l1, l2, l3, l4] stk h post = Ev sc 47 82 [.ref x, l1, l2, l3, l4] (.ref x :: stk) h post := e_1 (e := (81, .aload_n 0, 0, 0)) (q := (82, [.ref x, l1, l2, l3, l4], (.ref x :: stk), h)) (by decide +kernel) rfl rfl
theorem s47_82 {sc : Scr} {l0 l1 l2 l3 l4 : Value} {x : Nat} {stk : List Value} {h : AHp} {post : Option Value → AHp → Prop} : Ev sc 47 82 [l0, l1, l2, l3, l4] (.ref x :: stk) h post = oB (fldv h x 3 0) (fun v => Ev sc 47 85 [l0, l1, l2, l3, l4] (v :: stk) h post) := e_get (i := 11) (r1 := 3) (r2 := 0) (by decide +kernel)
theorem s47_85 {sc : Scr} {l0 l2 l3 l4 : Value} {x : Int32} {stk : List Value} {h : AHp} {post : Option Value → AHp → Prop} : Ev sc 47 85 [l0, .int x, l2, l3, l4] stk h post = Ev sc 47 86 [l0, .int x, l2, l3, l4] (.int x :: stk) h post := e_1 (e := (85, .iload_n 1, 0, 0)) (q := (86, [l0, .int x, l2, l3, l4], (.int x :: stk), h)) (by decide +kernel) rfl rfl
theorem s47_86 {sc : Scr} {l0 l1 l2 l3 l4 : Value} {x : Nat} {j : Int32} {stk : List Value} {h : AHp} {post : Option Value → AHp → Prop} : Ev sc 47 86 [l0, l1, l2, l3, l4] (.int j :: .ref x :: stk) h post = oB (ldq h x j) (fun v => Ev sc 47 87 [l0, l1, l2, l3, l4] (v :: stk) h post) := e_ldq (r1 := 0) (r2 := 0) (by decide +kernel)
theorem s47_87 {sc : Scr} {l0 l1 l2 l3 l4 : Value} {a0 : Nat}  {x : Nat} {h : AHp} {post : Option Value → AHp → Prop} (ho : isO h x 0) : Ev sc 47 87 [l0, l1, l2, l3, l4] [.ref a0, .ref x] h post = Call 1 [.ref x, .ref a0] h (fun rv h2 => Ev sc 47 90 [l0, l1, l2, l3, l4] (rv.toList ++ []) h2 post) := e_v (i := 54) (z := 1) (r2 := 0) (as := [.ref a0]) (rest := []) (by decide +kernel) rfl rfl (Nat.le_of_ble_eq_true rfl) rfl ho
theorem s47_90 {sc : Scr} {l0 l1 l2 l3 : Value} {x : Nat} {stk : List Value} {h : AHp} {post : Option Value → AHp → Prop} : Ev sc 47 90 [l0, l1, l2, l3, .ref x] stk h post = Ev sc 47 92 [l0, l1, l2, l3, .ref x] (.ref x :: stk) h post := e_1 (e := (90, .aload 4, 0, 0)) (q := (92, [l0, l1, l2, l3, .ref x], (.ref x :: stk), h)) (by decide +kernel) rfl rfl
theorem s47_92 {sc : Scr} {l0 l1 l2 l3 l4 : Value} {x : Nat} {stk : List Value} {h : AHp} {post : Option Value → AHp → Prop} : Ev sc 47 92 [l0, l1, l2, l3, l4] (.ref x :: stk) h post = oB (fldv h x 1 2) (fun v => Ev sc 47 95 [l0, l1, l2, l3, l4] (v :: stk) h post) := e_get (i := 156) (r1 := 1) (r2 := 2) (by decide +kernel)
theorem s47_95 {sc : Scr} {l0 l1 l2 l3 l4 : Value} {x : Int32} {h : AHp} {post : Option Value → AHp → Prop} : Ev sc 47 95 [l0, l1, l2, l3, l4] [.int x] h post = post (some (.int x)) h := e_r (e := (95, .ireturn, 0, 0)) (by decide +kernel) rfl rfl
-- 48 X3_insertLetter (I)LPartedSums$Letter;
theorem s48_e {a0 : Nat} {a1 : Int32} {h : AHp} {post : Option Value → AHp → Prop} : Call 48 [.ref a0, .int a1] h post = Ev none 48 0 [.ref a0, .int a1, .long 0, .long 0] [] h post := rfl
theorem s48_0 {sc : Scr} {l1 l2 l3 : Value} {x : Nat} {stk : List Value} {h : AHp} {post : Option Value → AHp → Prop} : Ev sc 48 0 [.ref x, l1, l2, l3] stk h post = Ev sc 48 1 [.ref x, l1, l2, l3] (.ref x :: stk) h post := e_1 (e := (0, .aload_n 0, 0, 0)) (q := (1, [.ref x, l1, l2, l3], (.ref x :: stk), h)) (by decide +kernel) rfl rfl
theorem s48_1 {sc : Scr} {l0 l1 l2 l3 : Value} {x : Nat} {stk : List Value} {h : AHp} {post : Option Value → AHp → Prop} : Ev sc 48 1 [l0, l1, l2, l3] (.ref x :: stk) h post = oB (fldv h x 3 5) (fun v => Ev sc 48 4 [l0, l1, l2, l3] (v :: stk) h post) := e_get (i := 33) (r1 := 3) (r2 := 5) (by decide +kernel)
theorem s48_4 {sc : Scr} {l1 l2 l3 : Value} {x : Nat} {stk : List Value} {h : AHp} {post : Option Value → AHp → Prop} : Ev sc 48 4 [.ref x, l1, l2, l3] stk h post = Ev sc 48 5 [.ref x, l1, l2, l3] (.ref x :: stk) h post := e_1 (e := (4, .aload_n 0, 0, 0)) (q := (5, [.ref x, l1, l2, l3], (.ref x :: stk), h)) (by decide +kernel) rfl rfl
theorem s48_5 {sc : Scr} {l0 l1 l2 l3 : Value} {x : Nat} {stk : List Value} {h : AHp} {post : Option Value → AHp → Prop} : Ev sc 48 5 [l0, l1, l2, l3] (.ref x :: stk) h post = oB (fldv h x 3 6) (fun v => Ev sc 48 8 [l0, l1, l2, l3] (v :: stk) h post) := e_get (i := 37) (r1 := 3) (r2 := 6) (by decide +kernel)
theorem s48_8 {sc : Scr} {l0 l1 l2 l3 : Value} {x : Nat} {j : Int32} {stk : List Value} {h : AHp} {post : Option Value → AHp → Prop} : Ev sc 48 8 [l0, l1, l2, l3] (.int j :: .ref x :: stk) h post = oB (ldq h x j) (fun v => Ev sc 48 9 [l0, l1, l2, l3] (v :: stk) h post) := e_ldq (r1 := 0) (r2 := 0) (by decide +kernel)
theorem s48_9 {sc : Scr} {l0 l1 l2 l3 : Value} {x : Nat} {stk : List Value} {h : AHp} {post : Option Value → AHp → Prop} : Ev sc 48 9 [l0, l1, l2, l3] (.ref x :: stk) h post = Ev sc 48 10 [l0, l1, .ref x, l3] stk h post := e_1 (e := (9, .astore_n 2, 0, 0)) (q := (10, [l0, l1, .ref x, l3], stk, h)) (by decide +kernel) rfl rfl
theorem s48_10 {sc : Scr} {l0 l1 l3 : Value} {x : Nat} {stk : List Value} {h : AHp} {post : Option Value → AHp → Prop} : Ev sc 48 10 [l0, l1, .ref x, l3] stk h post = Ev sc 48 11 [l0, l1, .ref x, l3] (.ref x :: stk) h post := e_1 (e := (10, .aload_n 2, 0, 0)) (q := (11, [l0, l1, .ref x, l3], (.ref x :: stk), h)) (by decide +kernel) rfl rfl
theorem s48_11 {sc : Scr} {l0 l2 l3 : Value} {x : Int32} {stk : List Value} {h : AHp} {post : Option Value → AHp → Prop} : Ev sc 48 11 [l0, .int x, l2, l3] stk h post = Ev sc 48 12 [l0, .int x, l2, l3] (.int x :: stk) h post := e_1 (e := (11, .iload_n 1, 0, 0)) (q := (12, [l0, .int x, l2, l3], (.int x :: stk), h)) (by decide +kernel) rfl rfl
theorem s48_12 {sc : Scr} {l0 l1 l2 l3 : Value} {x : Nat} {v : Int32} {stk : List Value} {h : AHp} {post : Option Value → AHp → Prop} : Ev sc 48 12 [l0, l1, l2, l3] (.int v :: .ref x :: stk) h post = oB (stf h x 1 2 (.int v)) (fun h2 => Ev sc 48 15 [l0, l1, l2, l3] stk h2 post) := e_put (i := 156) (r1 := 1) (r2 := 2) (by decide +kernel)
theorem s48_15 {sc : Scr} {l1 l2 l3 : Value} {x : Nat} {stk : List Value} {h : AHp} {post : Option Value → AHp → Prop} : Ev sc 48 15 [.ref x, l1, l2, l3] stk h post = Ev sc 48 16 [.ref x, l1, l2, l3] (.ref x :: stk) h post := e_1 (e := (15, .aload_n 0, 0, 0)) (q := (16, [.ref x, l1, l2, l3], (.ref x :: stk), h)) (by decide +kernel) rfl rfl
theorem s48_16 {sc : Scr} {l0 l1 l2 l3 : Value} {x : Nat} {stk : List Value} {h : AHp} {post : Option Value → AHp → Prop} : Ev sc 48 16 [l0, l1, l2, l3] (.ref x :: stk) h post = oB (fldv h x 3 6) (fun v => Ev sc 48 19 [l0, l1, l2, l3] (v :: stk) h post) := e_get (i := 37) (r1 := 3) (r2 := 6) (by decide +kernel)
theorem s48_19 {sc : Scr} {l0 l1 l2 l3 : Value} {x : Int32} {stk : List Value} {h : AHp} {post : Option Value → AHp → Prop} : Ev sc 48 19 [l0, l1, l2, l3] (.int x :: stk) h post = Ev sc 48 20 [l0, l1, l2, .int x] stk h post := e_1 (e := (19, .istore_n 3, 0, 0)) (q := (20, [l0, l1, l2, .int x], stk, h)) (by decide +kernel) rfl rfl
theorem s48_20 {sc : Scr} {l0 l1 l2 : Value} {x : Int32} {stk : List Value} {h : AHp} {post : Option Value → AHp → Prop} : Ev sc 48 20 [l0, l1, l2, .int x] stk h post = Ev sc 48 21 [l0, l1, l2, .int x] (.int x :: stk) h post := e_1 (e := (20, .iload_n 3, 0, 0)) (q := (21, [l0, l1, l2, .int x], (.int x :: stk), h)) (by decide +kernel) rfl rfl
theorem s48_21 {sc : Scr} {l0 l1 l2 l3 : Value} {x : Int32} {stk : List Value} {h : AHp} {post : Option Value → AHp → Prop} : Ev sc 48 21 [l0, l1, l2, l3] (.int x :: stk) h post = (if x ≤ 0 then Ev sc 48 59 [l0, l1, l2, l3] stk h post else Ev sc 48 24 [l0, l1, l2, l3] stk h post) := e_if_le (o := 38) (r1 := 0) (r2 := 0) 59 (by decide +kernel) rfl
theorem s48_24 {sc : Scr} {l1 l2 l3 : Value} {x : Nat} {stk : List Value} {h : AHp} {post : Option Value → AHp → Prop} : Ev sc 48 24 [.ref x, l1, l2, l3] stk h post = Ev sc 48 25 [.ref x, l1, l2, l3] (.ref x :: stk) h post := e_1 (e := (24, .aload_n 0, 0, 0)) (q := (25, [.ref x, l1, l2, l3], (.ref x :: stk), h)) (by decide +kernel) rfl rfl
theorem s48_25 {sc : Scr} {l0 l1 l2 l3 : Value} {x : Nat} {stk : List Value} {h : AHp} {post : Option Value → AHp → Prop} : Ev sc 48 25 [l0, l1, l2, l3] (.ref x :: stk) h post = oB (fldv h x 3 5) (fun v => Ev sc 48 28 [l0, l1, l2, l3] (v :: stk) h post) := e_get (i := 33) (r1 := 3) (r2 := 5) (by decide +kernel)
theorem s48_28 {sc : Scr} {l0 l1 l2 : Value} {x : Int32} {stk : List Value} {h : AHp} {post : Option Value → AHp → Prop} : Ev sc 48 28 [l0, l1, l2, .int x] stk h post = Ev sc 48 29 [l0, l1, l2, .int x] (.int x :: stk) h post := e_1 (e := (28, .iload_n 3, 0, 0)) (q := (29, [l0, l1, l2, .int x], (.int x :: stk), h)) (by decide +kernel) rfl rfl
theorem s48_29 {sc : Scr} {l0 l1 l2 l3 : Value}  {stk : List Value} {h : AHp} {post : Option Value → AHp → Prop} : Ev sc 48 29 [l0, l1, l2, l3] stk h post = Ev sc 48 30 [l0, l1, l2, l3] (.int (1) :: stk) h post := e_1 (e := (29, .iconst 1, 0, 0)) (q := (30, [l0, l1, l2, l3], (.int (1) :: stk), h)) (by decide +kernel) rfl rfl
theorem s48_30 {sc : Scr} {l0 l1 l2 l3 : Value} {x z : Int32} {stk : List Value} {h : AHp} {post : Option Value → AHp → Prop} : Ev sc 48 30 [l0, l1, l2, l3] (.int z :: .int x :: stk) h post = Ev sc 48 31 [l0, l1, l2, l3] (.int (x - z) :: stk) h post := e_1 (e := (30, .isub, 0, 0)) (q := (31, [l0, l1, l2, l3], (.int (x - z) :: stk), h)) (by decide +kernel) rfl rfl
theorem s48_31 {sc : Scr} {l0 l1 l2 l3 : Value} {x : Nat} {j : Int32} {stk : List Value} {h : AHp} {post : Option Value → AHp → Prop} : Ev sc 48 31 [l0, l1, l2, l3] (.int j :: .ref x :: stk) h post = oB (ldq h x j) (fun v => Ev sc 48 32 [l0, l1, l2, l3] (v :: stk) h post) := e_ldq (r1 := 0) (r2 := 0) (by decide +kernel)
theorem s48_32 {sc : Scr} {l0 l1 l2 l3 : Value} {x : Nat} {stk : List Value} {h : AHp} {post : Option Value → AHp → Prop} : Ev sc 48 32 [l0, l1, l2, l3] (.ref x :: stk) h post = oB (fldv h x 1 2) (fun v => Ev sc 48 35 [l0, l1, l2, l3] (v :: stk) h post) := e_get (i := 156) (r1 := 1) (r2 := 2) (by decide +kernel)
theorem s48_35 {sc : Scr} {l0 l2 l3 : Value} {x : Int32} {stk : List Value} {h : AHp} {post : Option Value → AHp → Prop} : Ev sc 48 35 [l0, .int x, l2, l3] stk h post = Ev sc 48 36 [l0, .int x, l2, l3] (.int x :: stk) h post := e_1 (e := (35, .iload_n 1, 0, 0)) (q := (36, [l0, .int x, l2, l3], (.int x :: stk), h)) (by decide +kernel) rfl rfl
theorem s48_36 {sc : Scr} {l0 l1 l2 l3 : Value} {x z : Int32} {stk : List Value} {h : AHp} {post : Option Value → AHp → Prop} : Ev sc 48 36 [l0, l1, l2, l3] (.int z :: .int x :: stk) h post = (if x ≤ z then Ev sc 48 59 [l0, l1, l2, l3] stk h post else Ev sc 48 39 [l0, l1, l2, l3] stk h post) := e_icmp_le (o := 23) (r1 := 0) (r2 := 0) 59 (by decide +kernel) rfl
theorem s48_39 {sc : Scr} {l1 l2 l3 : Value} {x : Nat} {stk : List Value} {h : AHp} {post : Option Value → AHp → Prop} : Ev sc 48 39 [.ref x, l1, l2, l3] stk h post = Ev sc 48 40 [.ref x, l1, l2, l3] (.ref x :: stk) h post := e_1 (e := (39, .aload_n 0, 0, 0)) (q := (40, [.ref x, l1, l2, l3], (.ref x :: stk), h)) (by decide +kernel) rfl rfl
theorem s48_40 {sc : Scr} {l0 l1 l2 l3 : Value} {x : Nat} {stk : List Value} {h : AHp} {post : Option Value → AHp → Prop} : Ev sc 48 40 [l0, l1, l2, l3] (.ref x :: stk) h post = oB (fldv h x 3 5) (fun v => Ev sc 48 43 [l0, l1, l2, l3] (v :: stk) h post) := e_get (i := 33) (r1 := 3) (r2 := 5) (by decide +kernel)
theorem s48_43 {sc : Scr} {l0 l1 l2 : Value} {x : Int32} {stk : List Value} {h : AHp} {post : Option Value → AHp → Prop} : Ev sc 48 43 [l0, l1, l2, .int x] stk h post = Ev sc 48 44 [l0, l1, l2, .int x] (.int x :: stk) h post := e_1 (e := (43, .iload_n 3, 0, 0)) (q := (44, [l0, l1, l2, .int x], (.int x :: stk), h)) (by decide +kernel) rfl rfl
theorem s48_44 {sc : Scr} {l1 l2 l3 : Value} {x : Nat} {stk : List Value} {h : AHp} {post : Option Value → AHp → Prop} : Ev sc 48 44 [.ref x, l1, l2, l3] stk h post = Ev sc 48 45 [.ref x, l1, l2, l3] (.ref x :: stk) h post := e_1 (e := (44, .aload_n 0, 0, 0)) (q := (45, [.ref x, l1, l2, l3], (.ref x :: stk), h)) (by decide +kernel) rfl rfl
theorem s48_45 {sc : Scr} {l0 l1 l2 l3 : Value} {x : Nat} {stk : List Value} {h : AHp} {post : Option Value → AHp → Prop} : Ev sc 48 45 [l0, l1, l2, l3] (.ref x :: stk) h post = oB (fldv h x 3 5) (fun v => Ev sc 48 48 [l0, l1, l2, l3] (v :: stk) h post) := e_get (i := 33) (r1 := 3) (r2 := 5) (by decide +kernel)
theorem s48_48 {sc : Scr} {l0 l1 l2 : Value} {x : Int32} {stk : List Value} {h : AHp} {post : Option Value → AHp → Prop} : Ev sc 48 48 [l0, l1, l2, .int x] stk h post = Ev sc 48 49 [l0, l1, l2, .int x] (.int x :: stk) h post := e_1 (e := (48, .iload_n 3, 0, 0)) (q := (49, [l0, l1, l2, .int x], (.int x :: stk), h)) (by decide +kernel) rfl rfl
theorem s48_49 {sc : Scr} {l0 l1 l2 l3 : Value}  {stk : List Value} {h : AHp} {post : Option Value → AHp → Prop} : Ev sc 48 49 [l0, l1, l2, l3] stk h post = Ev sc 48 50 [l0, l1, l2, l3] (.int (1) :: stk) h post := e_1 (e := (49, .iconst 1, 0, 0)) (q := (50, [l0, l1, l2, l3], (.int (1) :: stk), h)) (by decide +kernel) rfl rfl
theorem s48_50 {sc : Scr} {l0 l1 l2 l3 : Value} {x z : Int32} {stk : List Value} {h : AHp} {post : Option Value → AHp → Prop} : Ev sc 48 50 [l0, l1, l2, l3] (.int z :: .int x :: stk) h post = Ev sc 48 51 [l0, l1, l2, l3] (.int (x - z) :: stk) h post := e_1 (e := (50, .isub, 0, 0)) (q := (51, [l0, l1, l2, l3], (.int (x - z) :: stk), h)) (by decide +kernel) rfl rfl
theorem s48_51 {sc : Scr} {l0 l1 l2 l3 : Value} {x : Nat} {j : Int32} {stk : List Value} {h : AHp} {post : Option Value → AHp → Prop} : Ev sc 48 51 [l0, l1, l2, l3] (.int j :: .ref x :: stk) h post = oB (ldq h x j) (fun v => Ev sc 48 52 [l0, l1, l2, l3] (v :: stk) h post) := e_ldq (r1 := 0) (r2 := 0) (by decide +kernel)
theorem s48_52 {sc : Scr} {l0 l1 l2 l3 : Value} {x v : Nat} {j : Int32} {stk : List Value} {h : AHp} {post : Option Value → AHp → Prop} : Ev sc 48 52 [l0, l1, l2, l3] (.ref v :: .int j :: .ref x :: stk) h post = oB (stq h x j v) (fun h2 => Ev sc 48 53 [l0, l1, l2, l3] stk h2 post) := e_stq (r1 := 0) (r2 := 0) (by decide +kernel)
theorem s48_53 {sc : Scr} {l0 l1 l2 : Value} {x : Int32} {stk : List Value} {h : AHp} {post : Option Value → AHp → Prop} : Ev sc 48 53 [l0, l1, l2, .int x] stk h post = Ev sc 48 56 [l0, l1, l2, .int (x + (-1))] stk h post := e_1 (e := (53, .iinc 3 (-1), 0, 0)) (q := (56, [l0, l1, l2, .int (x + (-1))], stk, h)) (by decide +kernel) rfl rfl
theorem s48_56 {sc : Scr} {l0 l1 l2 l3 : Value}  {stk : List Value} {h : AHp} {post : Option Value → AHp → Prop} : Ev sc 48 56 [l0, l1, l2, l3] stk h post = Ev sc 48 20 [l0, l1, l2, l3] stk h post := e_1 (e := (56, .goto (-36), 0, 0)) (q := (20, [l0, l1, l2, l3], stk, h)) (by decide +kernel) rfl rfl
theorem s48_59 {sc : Scr} {l1 l2 l3 : Value} {x : Nat} {stk : List Value} {h : AHp} {post : Option Value → AHp → Prop} : Ev sc 48 59 [.ref x, l1, l2, l3] stk h post = Ev sc 48 60 [.ref x, l1, l2, l3] (.ref x :: stk) h post := e_1 (e := (59, .aload_n 0, 0, 0)) (q := (60, [.ref x, l1, l2, l3], (.ref x :: stk), h)) (by decide +kernel) rfl rfl
theorem s48_60 {sc : Scr} {l0 l1 l2 l3 : Value} {x : Nat} {stk : List Value} {h : AHp} {post : Option Value → AHp → Prop} : Ev sc 48 60 [l0, l1, l2, l3] (.ref x :: stk) h post = oB (fldv h x 3 5) (fun v => Ev sc 48 63 [l0, l1, l2, l3] (v :: stk) h post) := e_get (i := 33) (r1 := 3) (r2 := 5) (by decide +kernel)
theorem s48_63 {sc : Scr} {l0 l1 l2 : Value} {x : Int32} {stk : List Value} {h : AHp} {post : Option Value → AHp → Prop} : Ev sc 48 63 [l0, l1, l2, .int x] stk h post = Ev sc 48 64 [l0, l1, l2, .int x] (.int x :: stk) h post := e_1 (e := (63, .iload_n 3, 0, 0)) (q := (64, [l0, l1, l2, .int x], (.int x :: stk), h)) (by decide +kernel) rfl rfl
theorem s48_64 {sc : Scr} {l0 l1 l3 : Value} {x : Nat} {stk : List Value} {h : AHp} {post : Option Value → AHp → Prop} : Ev sc 48 64 [l0, l1, .ref x, l3] stk h post = Ev sc 48 65 [l0, l1, .ref x, l3] (.ref x :: stk) h post := e_1 (e := (64, .aload_n 2, 0, 0)) (q := (65, [l0, l1, .ref x, l3], (.ref x :: stk), h)) (by decide +kernel) rfl rfl
theorem s48_65 {sc : Scr} {l0 l1 l2 l3 : Value} {x v : Nat} {j : Int32} {stk : List Value} {h : AHp} {post : Option Value → AHp → Prop} : Ev sc 48 65 [l0, l1, l2, l3] (.ref v :: .int j :: .ref x :: stk) h post = oB (stq h x j v) (fun h2 => Ev sc 48 66 [l0, l1, l2, l3] stk h2 post) := e_stq (r1 := 0) (r2 := 0) (by decide +kernel)
theorem s48_66 {sc : Scr} {l1 l2 l3 : Value} {x : Nat} {stk : List Value} {h : AHp} {post : Option Value → AHp → Prop} : Ev sc 48 66 [.ref x, l1, l2, l3] stk h post = Ev sc 48 67 [.ref x, l1, l2, l3] (.ref x :: stk) h post := e_1 (e := (66, .aload_n 0, 0, 0)) (q := (67, [.ref x, l1, l2, l3], (.ref x :: stk), h)) (by decide +kernel) rfl rfl
theorem s48_67 {sc : Scr} {l0 l1 l2 l3 : Value} {x : Nat} {stk : List Value} {h : AHp} {post : Option Value → AHp → Prop} : Ev sc 48 67 [l0, l1, l2, l3] (.ref x :: stk) h post = Ev sc 48 68 [l0, l1, l2, l3] (.ref x :: .ref x :: stk) h post := e_1 (e := (67, .dup, 0, 0)) (q := (68, [l0, l1, l2, l3], (.ref x :: .ref x :: stk), h)) (by decide +kernel) rfl rfl
theorem s48_68 {sc : Scr} {l0 l1 l2 l3 : Value} {x : Nat} {stk : List Value} {h : AHp} {post : Option Value → AHp → Prop} : Ev sc 48 68 [l0, l1, l2, l3] (.ref x :: stk) h post = oB (fldv h x 3 6) (fun v => Ev sc 48 71 [l0, l1, l2, l3] (v :: stk) h post) := e_get (i := 37) (r1 := 3) (r2 := 6) (by decide +kernel)
theorem s48_71 {sc : Scr} {l0 l1 l2 l3 : Value}  {stk : List Value} {h : AHp} {post : Option Value → AHp → Prop} : Ev sc 48 71 [l0, l1, l2, l3] stk h post = Ev sc 48 72 [l0, l1, l2, l3] (.int (1) :: stk) h post := e_1 (e := (71, .iconst 1, 0, 0)) (q := (72, [l0, l1, l2, l3], (.int (1) :: stk), h)) (by decide +kernel) rfl rfl
theorem s48_72 {sc : Scr} {l0 l1 l2 l3 : Value} {x z : Int32} {stk : List Value} {h : AHp} {post : Option Value → AHp → Prop} : Ev sc 48 72 [l0, l1, l2, l3] (.int z :: .int x :: stk) h post = Ev sc 48 73 [l0, l1, l2, l3] (.int (x + z) :: stk) h post := e_1 (e := (72, .iadd, 0, 0)) (q := (73, [l0, l1, l2, l3], (.int (x + z) :: stk), h)) (by decide +kernel) rfl rfl
theorem s48_73 {sc : Scr} {l0 l1 l2 l3 : Value} {x : Nat} {v : Int32} {stk : List Value} {h : AHp} {post : Option Value → AHp → Prop} : Ev sc 48 73 [l0, l1, l2, l3] (.int v :: .ref x :: stk) h post = oB (stf h x 3 6 (.int v)) (fun h2 => Ev sc 48 76 [l0, l1, l2, l3] stk h2 post) := e_put (i := 37) (r1 := 3) (r2 := 6) (by decide +kernel)
theorem s48_76 {sc : Scr} {l0 l1 l3 : Value} {x : Nat} {stk : List Value} {h : AHp} {post : Option Value → AHp → Prop} : Ev sc 48 76 [l0, l1, .ref x, l3] stk h post = Ev sc 48 77 [l0, l1, .ref x, l3] (.ref x :: stk) h post := e_1 (e := (76, .aload_n 2, 0, 0)) (q := (77, [l0, l1, .ref x, l3], (.ref x :: stk), h)) (by decide +kernel) rfl rfl
theorem s48_77 {sc : Scr} {l0 l1 l2 l3 : Value} {x : Nat} {h : AHp} {post : Option Value → AHp → Prop} : Ev sc 48 77 [l0, l1, l2, l3] [.ref x] h post = post (some (.ref x)) h := e_r (e := (77, .areturn, 0, 0)) (by decide +kernel) rfl rfl
-- 49 X3_passTicks (I)I
theorem s49_e {a0 : Nat} {a1 : Int32} {h : AHp} {post : Option Value → AHp → Prop} : Call 49 [.ref a0, .int a1] h post = Ev none 49 0 [.ref a0, .int a1, .long 0, .long 0] [] h post := rfl
theorem s49_0 {sc : Scr} {l0 l2 l3 : Value} {x : Int32} {stk : List Value} {h : AHp} {post : Option Value → AHp → Prop} : Ev sc 49 0 [l0, .int x, l2, l3] stk h post = Ev sc 49 1 [l0, .int x, l2, l3] (.int x :: stk) h post := e_1 (e := (0, .iload_n 1, 0, 0)) (q := (1, [l0, .int x, l2, l3], (.int x :: stk), h)) (by decide +kernel) rfl rfl
theorem s49_1 {sc : Scr} {l0 l1 l2 l3 : Value}  {stk : List Value} {h : AHp} {post : Option Value → AHp → Prop} : Ev sc 49 1 [l0, l1, l2, l3] stk h post = Ev sc 49 2 [l0, l1, l2, l3] (.int (1) :: stk) h post := e_1 (e := (1, .iconst 1, 0, 0)) (q := (2, [l0, l1, l2, l3], (.int (1) :: stk), h)) (by decide +kernel) rfl rfl
theorem s49_2 {sc : Scr} {l0 l1 l2 l3 : Value}  {stk : List Value} {h : AHp} {post : Option Value → AHp → Prop} : Ev sc 49 2 [l0, l1, l2, l3] stk h post = Ev sc 49 4 [l0, l1, l2, l3] (.int (99) :: stk) h post := e_1 (e := (2, .bipush 99, 0, 0)) (q := (4, [l0, l1, l2, l3], (.int (99) :: stk), h)) (by decide +kernel) rfl rfl
theorem s49_4 {sc : Scr} {l0 l1 l2 l3 : Value} {a0 : Int32} {a1 : Int32} {a2 : Int32}  {h : AHp} {post : Option Value → AHp → Prop} : Ev sc 49 4 [l0, l1, l2, l3] [.int a0, .int a1, .int a2] h post = Call 85 [.int a2, .int a1, .int a0] h (fun rv h2 => Ev sc 49 7 [l0, l1, l2, l3] (rv.toList ++ []) h2 post) := e_s (i := 67) (z := 85) (r2 := 1) (as := [.int a2, .int a1, .int a0]) (rest := []) (by decide +kernel) rfl rfl rfl (Nat.le_of_ble_eq_true rfl) rfl
theorem s49_7 {sc : Scr} {l0 l1 l2 l3 : Value} {x : Int32} {stk : List Value} {h : AHp} {post : Option Value → AHp → Prop} : Ev sc 49 7 [l0, l1, l2, l3] (.int x :: stk) h post = (if ¬ x = 0 then Ev sc 49 13 [l0, l1, l2, l3] stk h post else Ev sc 49 10 [l0, l1, l2, l3] stk h post) := e_if_ne (o := 6) (r1 := 0) (r2 := 0) 13 (by decide +kernel) rfl
theorem s49_10 {sc : Scr} {l0 l1 l2 l3 : Value}  {stk : List Value} {h : AHp} {post : Option Value → AHp → Prop} : Ev sc 49 10 [l0, l1, l2, l3] stk h post = Ev sc 49 12 [l0, l1, l2, l3] (.int (-2000000001) :: stk) h post := e_1 (e := (10, .ldc 107, 0, -2000000001)) (q := (12, [l0, l1, l2, l3], (.int (-2000000001) :: stk), h)) (by decide +kernel) rfl rfl
theorem s49_12 {sc : Scr} {l0 l1 l2 l3 : Value} {x : Int32} {h : AHp} {post : Option Value → AHp → Prop} : Ev sc 49 12 [l0, l1, l2, l3] [.int x] h post = post (some (.int x)) h := e_r (e := (12, .ireturn, 0, 0)) (by decide +kernel) rfl rfl
theorem s49_13 {sc : Scr} {l1 l2 l3 : Value} {x : Nat} {stk : List Value} {h : AHp} {post : Option Value → AHp → Prop} : Ev sc 49 13 [.ref x, l1, l2, l3] stk h post = Ev sc 49 14 [.ref x, l1, l2, l3] (.ref x :: stk) h post := e_1 (e := (13, .aload_n 0, 0, 0)) (q := (14, [.ref x, l1, l2, l3], (.ref x :: stk), h)) (by decide +kernel) rfl rfl
theorem s49_14 {sc : Scr} {l0 l1 l2 l3 : Value} {x : Nat} {stk : List Value} {h : AHp} {post : Option Value → AHp → Prop} : Ev sc 49 14 [l0, l1, l2, l3] (.ref x :: stk) h post = oB (fldv h x 3 7) (fun v => Ev sc 49 17 [l0, l1, l2, l3] (v :: stk) h post) := e_get (i := 40) (r1 := 3) (r2 := 7) (by decide +kernel)
theorem s49_17 {sc : Scr} {l0 l2 l3 : Value} {x : Int32} {stk : List Value} {h : AHp} {post : Option Value → AHp → Prop} : Ev sc 49 17 [l0, .int x, l2, l3] stk h post = Ev sc 49 18 [l0, .int x, l2, l3] (.int x :: stk) h post := e_1 (e := (17, .iload_n 1, 0, 0)) (q := (18, [l0, .int x, l2, l3], (.int x :: stk), h)) (by decide +kernel) rfl rfl
theorem s49_18 {sc : Scr} {l0 l1 l2 l3 : Value} {x z : Int32} {stk : List Value} {h : AHp} {post : Option Value → AHp → Prop} : Ev sc 49 18 [l0, l1, l2, l3] (.int z :: .int x :: stk) h post = Ev sc 49 19 [l0, l1, l2, l3] (.int (x + z) :: stk) h post := e_1 (e := (18, .iadd, 0, 0)) (q := (19, [l0, l1, l2, l3], (.int (x + z) :: stk), h)) (by decide +kernel) rfl rfl
theorem s49_19 {sc : Scr} {l0 l1 l2 l3 : Value}  {stk : List Value} {h : AHp} {post : Option Value → AHp → Prop} : Ev sc 49 19 [l0, l1, l2, l3] stk h post = Ev sc 49 22 [l0, l1, l2, l3] (.int (1999) :: stk) h post := e_1 (e := (19, .sipush 1999, 0, 0)) (q := (22, [l0, l1, l2, l3], (.int (1999) :: stk), h)) (by decide +kernel) rfl rfl
theorem s49_22 {sc : Scr} {l0 l1 l2 l3 : Value} {x z : Int32} {stk : List Value} {h : AHp} {post : Option Value → AHp → Prop} : Ev sc 49 22 [l0, l1, l2, l3] (.int z :: .int x :: stk) h post = (if x ≤ z then Ev sc 49 28 [l0, l1, l2, l3] stk h post else Ev sc 49 25 [l0, l1, l2, l3] stk h post) := e_icmp_le (o := 6) (r1 := 0) (r2 := 0) 28 (by decide +kernel) rfl
theorem s49_25 {sc : Scr} {l0 l1 l2 l3 : Value}  {stk : List Value} {h : AHp} {post : Option Value → AHp → Prop} : Ev sc 49 25 [l0, l1, l2, l3] stk h post = Ev sc 49 27 [l0, l1, l2, l3] (.int (-2000000003) :: stk) h post := e_1 (e := (25, .ldc 108, 0, -2000000003)) (q := (27, [l0, l1, l2, l3], (.int (-2000000003) :: stk), h)) (by decide +kernel) rfl rfl
theorem s49_27 {sc : Scr} {l0 l1 l2 l3 : Value} {x : Int32} {h : AHp} {post : Option Value → AHp → Prop} : Ev sc 49 27 [l0, l1, l2, l3] [.int x] h post = post (some (.int x)) h := e_r (e := (27, .ireturn, 0, 0)) (by decide +kernel) rfl rfl
theorem s49_28 {sc : Scr} {l1 l2 l3 : Value} {x : Nat} {stk : List Value} {h : AHp} {post : Option Value → AHp → Prop} : Ev sc 49 28 [.ref x, l1, l2, l3] stk h post = Ev sc 49 29 [.ref x, l1, l2, l3] (.ref x :: stk) h post := e_1 (e := (28, .aload_n 0, 0, 0)) (q := (29, [.ref x, l1, l2, l3], (.ref x :: stk), h)) (by decide +kernel) rfl rfl
theorem s49_29 {sc : Scr} {l0 l1 l2 l3 : Value} {x : Nat} {stk : List Value} {h : AHp} {post : Option Value → AHp → Prop} : Ev sc 49 29 [l0, l1, l2, l3] (.ref x :: stk) h post = Ev sc 49 30 [l0, l1, l2, l3] (.ref x :: .ref x :: stk) h post := e_1 (e := (29, .dup, 0, 0)) (q := (30, [l0, l1, l2, l3], (.ref x :: .ref x :: stk), h)) (by decide +kernel) rfl rfl
theorem s49_30 {sc : Scr} {l0 l1 l2 l3 : Value} {x : Nat} {stk : List Value} {h : AHp} {post : Option Value → AHp → Prop} : Ev sc 49 30 [l0, l1, l2, l3] (.ref x :: stk) h post = oB (fldv h x 3 7) (fun v => Ev sc 49 33 [l0, l1, l2, l3] (v :: stk) h post) := e_get (i := 40) (r1 := 3) (r2 := 7) (by decide +kernel)
theorem s49_33 {sc : Scr} {l0 l2 l3 : Value} {x : Int32} {stk : List Value} {h : AHp} {post : Option Value → AHp → Prop} : Ev sc 49 33 [l0, .int x, l2, l3] stk h post = Ev sc 49 34 [l0, .int x, l2, l3] (.int x :: stk) h post := e_1 (e := (33, .iload_n 1, 0, 0)) (q := (34, [l0, .int x, l2, l3], (.int x :: stk), h)) (by decide +kernel) rfl rfl
theorem s49_34 {sc : Scr} {l0 l1 l2 l3 : Value} {x z : Int32} {stk : List Value} {h : AHp} {post : Option Value → AHp → Prop} : Ev sc 49 34 [l0, l1, l2, l3] (.int z :: .int x :: stk) h post = Ev sc 49 35 [l0, l1, l2, l3] (.int (x + z) :: stk) h post := e_1 (e := (34, .iadd, 0, 0)) (q := (35, [l0, l1, l2, l3], (.int (x + z) :: stk), h)) (by decide +kernel) rfl rfl
theorem s49_35 {sc : Scr} {l0 l1 l2 l3 : Value} {x : Nat} {v : Int32} {stk : List Value} {h : AHp} {post : Option Value → AHp → Prop} : Ev sc 49 35 [l0, l1, l2, l3] (.int v :: .ref x :: stk) h post = oB (stf h x 3 7 (.int v)) (fun h2 => Ev sc 49 38 [l0, l1, l2, l3] stk h2 post) := e_put (i := 40) (r1 := 3) (r2 := 7) (by decide +kernel)
theorem s49_38 {sc : Scr} {l1 l2 l3 : Value} {x : Nat} {stk : List Value} {h : AHp} {post : Option Value → AHp → Prop} : Ev sc 49 38 [.ref x, l1, l2, l3] stk h post = Ev sc 49 39 [.ref x, l1, l2, l3] (.ref x :: stk) h post := e_1 (e := (38, .aload_n 0, 0, 0)) (q := (39, [.ref x, l1, l2, l3], (.ref x :: stk), h)) (by decide +kernel) rfl rfl
theorem s49_39 {sc : Scr} {l0 l1 l2 l3 : Value} {x : Nat} {stk : List Value} {h : AHp} {post : Option Value → AHp → Prop} : Ev sc 49 39 [l0, l1, l2, l3] (.ref x :: stk) h post = oB (fldv h x 3 8) (fun v => Ev sc 49 42 [l0, l1, l2, l3] (v :: stk) h post) := e_get (i := 43) (r1 := 3) (r2 := 8) (by decide +kernel)
theorem s49_42 {sc : Scr} {l0 l1 l2 l3 : Value} {x : Int32} {stk : List Value} {h : AHp} {post : Option Value → AHp → Prop} : Ev sc 49 42 [l0, l1, l2, l3] (.int x :: stk) h post = Ev sc 49 43 [l0, l1, .int x, l3] stk h post := e_1 (e := (42, .istore_n 2, 0, 0)) (q := (43, [l0, l1, .int x, l3], stk, h)) (by decide +kernel) rfl rfl
theorem s49_43 {sc : Scr} {l0 l1 l2 l3 : Value}  {stk : List Value} {h : AHp} {post : Option Value → AHp → Prop} : Ev sc 49 43 [l0, l1, l2, l3] stk h post = Ev sc 49 44 [l0, l1, l2, l3] (.int (0) :: stk) h post := e_1 (e := (43, .iconst 0, 0, 0)) (q := (44, [l0, l1, l2, l3], (.int (0) :: stk), h)) (by decide +kernel) rfl rfl
theorem s49_44 {sc : Scr} {l0 l1 l2 l3 : Value} {x : Int32} {stk : List Value} {h : AHp} {post : Option Value → AHp → Prop} : Ev sc 49 44 [l0, l1, l2, l3] (.int x :: stk) h post = Ev sc 49 45 [l0, l1, l2, .int x] stk h post := e_1 (e := (44, .istore_n 3, 0, 0)) (q := (45, [l0, l1, l2, .int x], stk, h)) (by decide +kernel) rfl rfl
theorem s49_45 {sc : Scr} {l0 l1 l2 : Value} {x : Int32} {stk : List Value} {h : AHp} {post : Option Value → AHp → Prop} : Ev sc 49 45 [l0, l1, l2, .int x] stk h post = Ev sc 49 46 [l0, l1, l2, .int x] (.int x :: stk) h post := e_1 (e := (45, .iload_n 3, 0, 0)) (q := (46, [l0, l1, l2, .int x], (.int x :: stk), h)) (by decide +kernel) rfl rfl
theorem s49_46 {sc : Scr} {l1 l2 l3 : Value} {x : Nat} {stk : List Value} {h : AHp} {post : Option Value → AHp → Prop} : Ev sc 49 46 [.ref x, l1, l2, l3] stk h post = Ev sc 49 47 [.ref x, l1, l2, l3] (.ref x :: stk) h post := e_1 (e := (46, .aload_n 0, 0, 0)) (q := (47, [.ref x, l1, l2, l3], (.ref x :: stk), h)) (by decide +kernel) rfl rfl
theorem s49_47 {sc : Scr} {l0 l1 l2 l3 : Value} {x : Nat} {stk : List Value} {h : AHp} {post : Option Value → AHp → Prop} : Ev sc 49 47 [l0, l1, l2, l3] (.ref x :: stk) h post = oB (fldv h x 3 6) (fun v => Ev sc 49 50 [l0, l1, l2, l3] (v :: stk) h post) := e_get (i := 37) (r1 := 3) (r2 := 6) (by decide +kernel)
theorem s49_50 {sc : Scr} {l0 l1 l2 l3 : Value} {x z : Int32} {stk : List Value} {h : AHp} {post : Option Value → AHp → Prop} : Ev sc 49 50 [l0, l1, l2, l3] (.int z :: .int x :: stk) h post = (if z ≤ x then Ev sc 49 85 [l0, l1, l2, l3] stk h post else Ev sc 49 53 [l0, l1, l2, l3] stk h post) := e_icmp_ge (o := 35) (r1 := 0) (r2 := 0) 85 (by decide +kernel) rfl
theorem s49_53 {sc : Scr} {l1 l2 l3 : Value} {x : Nat} {stk : List Value} {h : AHp} {post : Option Value → AHp → Prop} : Ev sc 49 53 [.ref x, l1, l2, l3] stk h post = Ev sc 49 54 [.ref x, l1, l2, l3] (.ref x :: stk) h post := e_1 (e := (53, .aload_n 0, 0, 0)) (q := (54, [.ref x, l1, l2, l3], (.ref x :: stk), h)) (by decide +kernel) rfl rfl
theorem s49_54 {sc : Scr} {l0 l1 l2 l3 : Value} {x : Nat} {stk : List Value} {h : AHp} {post : Option Value → AHp → Prop} : Ev sc 49 54 [l0, l1, l2, l3] (.ref x :: stk) h post = oB (fldv h x 3 5) (fun v => Ev sc 49 57 [l0, l1, l2, l3] (v :: stk) h post) := e_get (i := 33) (r1 := 3) (r2 := 5) (by decide +kernel)
theorem s49_57 {sc : Scr} {l0 l1 l2 : Value} {x : Int32} {stk : List Value} {h : AHp} {post : Option Value → AHp → Prop} : Ev sc 49 57 [l0, l1, l2, .int x] stk h post = Ev sc 49 58 [l0, l1, l2, .int x] (.int x :: stk) h post := e_1 (e := (57, .iload_n 3, 0, 0)) (q := (58, [l0, l1, l2, .int x], (.int x :: stk), h)) (by decide +kernel) rfl rfl
theorem s49_58 {sc : Scr} {l0 l1 l2 l3 : Value} {x : Nat} {j : Int32} {stk : List Value} {h : AHp} {post : Option Value → AHp → Prop} : Ev sc 49 58 [l0, l1, l2, l3] (.int j :: .ref x :: stk) h post = oB (ldq h x j) (fun v => Ev sc 49 59 [l0, l1, l2, l3] (v :: stk) h post) := e_ldq (r1 := 0) (r2 := 0) (by decide +kernel)
theorem s49_59 {sc : Scr} {l0 l1 l2 l3 : Value} {x : Nat} {stk : List Value} {h : AHp} {post : Option Value → AHp → Prop} : Ev sc 49 59 [l0, l1, l2, l3] (.ref x :: stk) h post = oB (fldv h x 1 2) (fun v => Ev sc 49 62 [l0, l1, l2, l3] (v :: stk) h post) := e_get (i := 156) (r1 := 1) (r2 := 2) (by decide +kernel)
theorem s49_62 {sc : Scr} {l1 l2 l3 : Value} {x : Nat} {stk : List Value} {h : AHp} {post : Option Value → AHp → Prop} : Ev sc 49 62 [.ref x, l1, l2, l3] stk h post = Ev sc 49 63 [.ref x, l1, l2, l3] (.ref x :: stk) h post := e_1 (e := (62, .aload_n 0, 0, 0)) (q := (63, [.ref x, l1, l2, l3], (.ref x :: stk), h)) (by decide +kernel) rfl rfl
theorem s49_63 {sc : Scr} {l0 l1 l2 l3 : Value} {x : Nat} {stk : List Value} {h : AHp} {post : Option Value → AHp → Prop} : Ev sc 49 63 [l0, l1, l2, l3] (.ref x :: stk) h post = oB (fldv h x 3 7) (fun v => Ev sc 49 66 [l0, l1, l2, l3] (v :: stk) h post) := e_get (i := 40) (r1 := 3) (r2 := 7) (by decide +kernel)
theorem s49_66 {sc : Scr} {l0 l1 l2 l3 : Value} {x z : Int32} {stk : List Value} {h : AHp} {post : Option Value → AHp → Prop} : Ev sc 49 66 [l0, l1, l2, l3] (.int z :: .int x :: stk) h post = (if z < x then Ev sc 49 85 [l0, l1, l2, l3] stk h post else Ev sc 49 69 [l0, l1, l2, l3] stk h post) := e_icmp_gt (o := 19) (r1 := 0) (r2 := 0) 85 (by decide +kernel) rfl
theorem s49_69 {sc : Scr} {l1 l2 l3 : Value} {x : Nat} {stk : List Value} {h : AHp} {post : Option Value → AHp → Prop} : Ev sc 49 69 [.ref x, l1, l2, l3] stk h post = Ev sc 49 70 [.ref x, l1, l2, l3] (.ref x :: stk) h post := e_1 (e := (69, .aload_n 0, 0, 0)) (q := (70, [.ref x, l1, l2, l3], (.ref x :: stk), h)) (by decide +kernel) rfl rfl
theorem s49_70 {sc : Scr} {l1 l2 l3 : Value} {x : Nat} {stk : List Value} {h : AHp} {post : Option Value → AHp → Prop} : Ev sc 49 70 [.ref x, l1, l2, l3] stk h post = Ev sc 49 71 [.ref x, l1, l2, l3] (.ref x :: stk) h post := e_1 (e := (70, .aload_n 0, 0, 0)) (q := (71, [.ref x, l1, l2, l3], (.ref x :: stk), h)) (by decide +kernel) rfl rfl
theorem s49_71 {sc : Scr} {l0 l1 l2 l3 : Value} {x : Nat} {stk : List Value} {h : AHp} {post : Option Value → AHp → Prop} : Ev sc 49 71 [l0, l1, l2, l3] (.ref x :: stk) h post = oB (fldv h x 3 5) (fun v => Ev sc 49 74 [l0, l1, l2, l3] (v :: stk) h post) := e_get (i := 33) (r1 := 3) (r2 := 5) (by decide +kernel)
theorem s49_74 {sc : Scr} {l0 l1 l2 : Value} {x : Int32} {stk : List Value} {h : AHp} {post : Option Value → AHp → Prop} : Ev sc 49 74 [l0, l1, l2, .int x] stk h post = Ev sc 49 75 [l0, l1, l2, .int x] (.int x :: stk) h post := e_1 (e := (74, .iload_n 3, 0, 0)) (q := (75, [l0, l1, l2, .int x], (.int x :: stk), h)) (by decide +kernel) rfl rfl
theorem s49_75 {sc : Scr} {l0 l1 l2 l3 : Value} {x : Nat} {j : Int32} {stk : List Value} {h : AHp} {post : Option Value → AHp → Prop} : Ev sc 49 75 [l0, l1, l2, l3] (.int j :: .ref x :: stk) h post = oB (ldq h x j) (fun v => Ev sc 49 76 [l0, l1, l2, l3] (v :: stk) h post) := e_ldq (r1 := 0) (r2 := 0) (by decide +kernel)
theorem s49_76 {sc : Scr} {l0 l1 l2 l3 : Value} {a0 : Nat}  {x : Nat} {h : AHp} {post : Option Value → AHp → Prop} (ho : isO h x 3) : Ev sc 49 76 [l0, l1, l2, l3] [.ref a0, .ref x] h post = Call 50 [.ref x, .ref a0] h (fun rv h2 => Ev sc 49 79 [l0, l1, l2, l3] (rv.toList ++ []) h2 post) := e_v (i := 159) (z := 50) (r2 := 0) (as := [.ref a0]) (rest := []) (by decide +kernel) rfl rfl (Nat.le_of_ble_eq_true rfl) rfl ho
theorem s49_79 {sc : Scr} {l0 l1 l2 : Value} {x : Int32} {stk : List Value} {h : AHp} {post : Option Value → AHp → Prop} : Ev sc 49 79 [l0, l1, l2, .int x] stk h post = Ev sc 49 82 [l0, l1, l2, .int (x + 1)] stk h post := e_1 (e := (79, .iinc 3 1, 0, 0)) (q := (82, [l0, l1, l2, .int (x + 1)], stk, h)) (by decide +kernel) rfl rfl
theorem s49_82 {sc : Scr} {l0 l1 l2 l3 : Value}  {stk : List Value} {h : AHp} {post : Option Value → AHp → Prop} : Ev sc 49 82 [l0, l1, l2, l3] stk h post = Ev sc 49 45 [l0, l1, l2, l3] stk h post := e_1 (e := (82, .goto (-37), 0, 0)) (q := (45, [l0, l1, l2, l3], stk, h)) (by decide +kernel) rfl rfl
theorem s49_85 {sc : Scr} {l1 l2 l3 : Value} {x : Nat} {stk : List Value} {h : AHp} {post : Option Value → AHp → Prop} : Ev sc 49 85 [.ref x, l1, l2, l3] stk h post = Ev sc 49 86 [.ref x, l1, l2, l3] (.ref x :: stk) h post := e_1 (e := (85, .aload_n 0, 0, 0)) (q := (86, [.ref x, l1, l2, l3], (.ref x :: stk), h)) (by decide +kernel) rfl rfl
theorem s49_86 {sc : Scr} {l0 l1 l2 : Value} {x : Int32} {stk : List Value} {h : AHp} {post : Option Value → AHp → Prop} : Ev sc 49 86 [l0, l1, l2, .int x] stk h post = Ev sc 49 87 [l0, l1, l2, .int x] (.int x :: stk) h post := e_1 (e := (86, .iload_n 3, 0, 0)) (q := (87, [l0, l1, l2, .int x], (.int x :: stk), h)) (by decide +kernel) rfl rfl
theorem s49_87 {sc : Scr} {l0 l1 l2 l3 : Value} {a0 : Int32}  {x : Nat} {h : AHp} {post : Option Value → AHp → Prop} (ho : isO h x 3) : Ev sc 49 87 [l0, l1, l2, l3] [.int a0, .ref x] h post = Call 51 [.ref x, .int a0] h (fun rv h2 => Ev sc 49 90 [l0, l1, l2, l3] (rv.toList ++ []) h2 post) := e_v (i := 162) (z := 51) (r2 := 0) (as := [.int a0]) (rest := []) (by decide +kernel) rfl rfl (Nat.le_of_ble_eq_true rfl) rfl ho
theorem s49_90 {sc : Scr} {l1 l2 l3 : Value} {x : Nat} {stk : List Value} {h : AHp} {post : Option Value → AHp → Prop} : Ev sc 49 90 [.ref x, l1, l2, l3] stk h post = Ev sc 49 91 [.ref x, l1, l2, l3] (.ref x :: stk) h post := e_1 (e := (90, .aload_n 0, 0, 0)) (q := (91, [.ref x, l1, l2, l3], (.ref x :: stk), h)) (by decide +kernel) rfl rfl
theorem s49_91 {sc : Scr} {l0 l1 l2 l3 : Value} {x : Nat} {stk : List Value} {h : AHp} {post : Option Value → AHp → Prop} : Ev sc 49 91 [l0, l1, l2, l3] (.ref x :: stk) h post = oB (fldv h x 3 8) (fun v => Ev sc 49 94 [l0, l1, l2, l3] (v :: stk) h post) := e_get (i := 43) (r1 := 3) (r2 := 8) (by decide +kernel)
theorem s49_94 {sc : Scr} {l0 l1 l3 : Value} {x : Int32} {stk : List Value} {h : AHp} {post : Option Value → AHp → Prop} : Ev sc 49 94 [l0, l1, .int x, l3] stk h post = Ev sc 49 95 [l0, l1, .int x, l3] (.int x :: stk) h post := e_1 (e := (94, .iload_n 2, 0, 0)) (q := (95, [l0, l1, .int x, l3], (.int x :: stk), h)) (by decide +kernel) rfl rfl
theorem s49_95 {sc : Scr} {l0 l1 l2 l3 : Value} {x z : Int32} {stk : List Value} {h : AHp} {post : Option Value → AHp → Prop} : Ev sc 49 95 [l0, l1, l2, l3] (.int z :: .int x :: stk) h post = Ev sc 49 96 [l0, l1, l2, l3] (.int (x - z) :: stk) h post := e_1 (e := (95, .isub, 0, 0)) (q := (96, [l0, l1, l2, l3], (.int (x - z) :: stk), h)) (by decide +kernel) rfl rfl
theorem s49_96 {sc : Scr} {l0 l1 l2 l3 : Value} {x : Int32} {h : AHp} {post : Option Value → AHp → Prop} : Ev sc 49 96 [l0, l1, l2, l3] [.int x] h post = post (some (.int x)) h := e_r (e := (96, .ireturn, 0, 0)) (by decide +kernel) rfl rfl
-- 50 X3_receive (LPartedSums$Letter;)V
theorem s50_e {a0 : Nat} {a1 : Nat} {h : AHp} {post : Option Value → AHp → Prop} : Call 50 [.ref a0, .ref a1] h post = Ev none 50 0 [.ref a0, .ref a1] [] h post := rfl
theorem s50_0 {sc : Scr} {l0 : Value} {x : Nat} {stk : List Value} {h : AHp} {post : Option Value → AHp → Prop} : Ev sc 50 0 [l0, .ref x] stk h post = Ev sc 50 1 [l0, .ref x] (.ref x :: stk) h post := e_1 (e := (0, .aload_n 1, 0, 0)) (q := (1, [l0, .ref x], (.ref x :: stk), h)) (by decide +kernel) rfl rfl
theorem s50_1 {sc : Scr} {l0 l1 : Value} {x : Nat} {stk : List Value} {h : AHp} {post : Option Value → AHp → Prop} : Ev sc 50 1 [l0, l1] (.ref x :: stk) h post = oB (fldv h x 1 3) (fun v => Ev sc 50 4 [l0, l1] (v :: stk) h post) := e_get (i := 137) (r1 := 1) (r2 := 3) (by decide +kernel)
theorem s50_4 {sc : Scr} {l0 l1 : Value} {x : Int32} {stk : List Value} {h : AHp} {post : Option Value → AHp → Prop} : Ev sc 50 4 [l0, l1] (.int x :: stk) h post = (if x = 0 then Ev sc 50 20 [l0, l1] stk h post else Ev sc 50 7 [l0, l1] stk h post) := e_if_eq (o := 16) (r1 := 0) (r2 := 0) 20 (by decide +kernel) rfl
theorem s50_7 {sc : Scr} {l1 : Value} {x : Nat} {stk : List Value} {h : AHp} {post : Option Value → AHp → Prop} : Ev sc 50 7 [.ref x, l1] stk h post = Ev sc 50 8 [.ref x, l1] (.ref x :: stk) h post := e_1 (e := (7, .aload_n 0, 0, 0)) (q := (8, [.ref x, l1], (.ref x :: stk), h)) (by decide +kernel) rfl rfl
theorem s50_8 {sc : Scr} {l0 l1 : Value} {x : Nat} {stk : List Value} {h : AHp} {post : Option Value → AHp → Prop} : Ev sc 50 8 [l0, l1] (.ref x :: stk) h post = Ev sc 50 9 [l0, l1] (.ref x :: .ref x :: stk) h post := e_1 (e := (8, .dup, 0, 0)) (q := (9, [l0, l1], (.ref x :: .ref x :: stk), h)) (by decide +kernel) rfl rfl
theorem s50_9 {sc : Scr} {l0 l1 : Value} {x : Nat} {stk : List Value} {h : AHp} {post : Option Value → AHp → Prop} : Ev sc 50 9 [l0, l1] (.ref x :: stk) h post = oB (fldv h x 3 9) (fun v => Ev sc 50 12 [l0, l1] (v :: stk) h post) := e_get (i := 46) (r1 := 3) (r2 := 9) (by decide +kernel)
theorem s50_12 {sc : Scr} {l0 l1 : Value}  {stk : List Value} {h : AHp} {post : Option Value → AHp → Prop} : Ev sc 50 12 [l0, l1] stk h post = Ev sc 50 13 [l0, l1] (.int (1) :: stk) h post := e_1 (e := (12, .iconst 1, 0, 0)) (q := (13, [l0, l1], (.int (1) :: stk), h)) (by decide +kernel) rfl rfl
theorem s50_13 {sc : Scr} {l0 l1 : Value} {x z : Int32} {stk : List Value} {h : AHp} {post : Option Value → AHp → Prop} : Ev sc 50 13 [l0, l1] (.int z :: .int x :: stk) h post = Ev sc 50 14 [l0, l1] (.int (x + z) :: stk) h post := e_1 (e := (13, .iadd, 0, 0)) (q := (14, [l0, l1], (.int (x + z) :: stk), h)) (by decide +kernel) rfl rfl
theorem s50_14 {sc : Scr} {l0 l1 : Value} {x : Nat} {v : Int32} {stk : List Value} {h : AHp} {post : Option Value → AHp → Prop} : Ev sc 50 14 [l0, l1] (.int v :: .ref x :: stk) h post = oB (stf h x 3 9 (.int v)) (fun h2 => Ev sc 50 17 [l0, l1] stk h2 post) := e_put (i := 46) (r1 := 3) (r2 := 9) (by decide +kernel)
theorem s50_17 {sc : Scr} {l0 l1 : Value}  {stk : List Value} {h : AHp} {post : Option Value → AHp → Prop} : Ev sc 50 17 [l0, l1] stk h post = Ev sc 50 55 [l0, l1] stk h post := e_1 (e := (17, .goto 38, 0, 0)) (q := (55, [l0, l1], stk, h)) (by decide +kernel) rfl rfl
theorem s50_20 {sc : Scr} {l1 : Value} {x : Nat} {stk : List Value} {h : AHp} {post : Option Value → AHp → Prop} : Ev sc 50 20 [.ref x, l1] stk h post = Ev sc 50 21 [.ref x, l1] (.ref x :: stk) h post := e_1 (e := (20, .aload_n 0, 0, 0)) (q := (21, [.ref x, l1], (.ref x :: stk), h)) (by decide +kernel) rfl rfl
theorem s50_21 {sc : Scr} {l0 l1 : Value} {x : Nat} {stk : List Value} {h : AHp} {post : Option Value → AHp → Prop} : Ev sc 50 21 [l0, l1] (.ref x :: stk) h post = Ev sc 50 22 [l0, l1] (.ref x :: .ref x :: stk) h post := e_1 (e := (21, .dup, 0, 0)) (q := (22, [l0, l1], (.ref x :: .ref x :: stk), h)) (by decide +kernel) rfl rfl
theorem s50_22 {sc : Scr} {l0 l1 : Value} {x : Nat} {stk : List Value} {h : AHp} {post : Option Value → AHp → Prop} : Ev sc 50 22 [l0, l1] (.ref x :: stk) h post = oB (fldv h x 3 10) (fun v => Ev sc 50 25 [l0, l1] (v :: stk) h post) := e_get (i := 49) (r1 := 3) (r2 := 10) (by decide +kernel)
theorem s50_25 {sc : Scr} {l1 : Value} {x : Nat} {stk : List Value} {h : AHp} {post : Option Value → AHp → Prop} : Ev sc 50 25 [.ref x, l1] stk h post = Ev sc 50 26 [.ref x, l1] (.ref x :: stk) h post := e_1 (e := (25, .aload_n 0, 0, 0)) (q := (26, [.ref x, l1], (.ref x :: stk), h)) (by decide +kernel) rfl rfl
theorem s50_26 {sc : Scr} {l0 l1 : Value} {x : Nat} {stk : List Value} {h : AHp} {post : Option Value → AHp → Prop} : Ev sc 50 26 [l0, l1] (.ref x :: stk) h post = oB (fldv h x 3 0) (fun v => Ev sc 50 29 [l0, l1] (v :: stk) h post) := e_get (i := 11) (r1 := 3) (r2 := 0) (by decide +kernel)
theorem s50_29 {sc : Scr} {l0 : Value} {x : Nat} {stk : List Value} {h : AHp} {post : Option Value → AHp → Prop} : Ev sc 50 29 [l0, .ref x] stk h post = Ev sc 50 30 [l0, .ref x] (.ref x :: stk) h post := e_1 (e := (29, .aload_n 1, 0, 0)) (q := (30, [l0, .ref x], (.ref x :: stk), h)) (by decide +kernel) rfl rfl
theorem s50_30 {sc : Scr} {l0 l1 : Value} {x : Nat} {stk : List Value} {h : AHp} {post : Option Value → AHp → Prop} : Ev sc 50 30 [l0, l1] (.ref x :: stk) h post = oB (fldv h x 1 1) (fun v => Ev sc 50 33 [l0, l1] (v :: stk) h post) := e_get (i := 134) (r1 := 1) (r2 := 1) (by decide +kernel)
theorem s50_33 {sc : Scr} {l0 l1 : Value} {x : Nat} {j : Int32} {stk : List Value} {h : AHp} {post : Option Value → AHp → Prop} : Ev sc 50 33 [l0, l1] (.int j :: .ref x :: stk) h post = oB (ldq h x j) (fun v => Ev sc 50 34 [l0, l1] (v :: stk) h post) := e_ldq (r1 := 0) (r2 := 0) (by decide +kernel)
theorem s50_34 {sc : Scr} {l0 : Value} {x : Nat} {stk : List Value} {h : AHp} {post : Option Value → AHp → Prop} : Ev sc 50 34 [l0, .ref x] stk h post = Ev sc 50 35 [l0, .ref x] (.ref x :: stk) h post := e_1 (e := (34, .aload_n 1, 0, 0)) (q := (35, [l0, .ref x], (.ref x :: stk), h)) (by decide +kernel) rfl rfl
theorem s50_35 {sc : Scr} {l0 l1 : Value} {x : Nat} {stk : List Value} {h : AHp} {post : Option Value → AHp → Prop} : Ev sc 50 35 [l0, l1] (.ref x :: stk) h post = oB (fldv h x 1 4) (fun v => Ev sc 50 38 [l0, l1] (v :: stk) h post) := e_get (i := 152) (r1 := 1) (r2 := 4) (by decide +kernel)
theorem s50_38 {sc : Scr} {l0 l1 : Value} {a0 : Nat} {y0 : Int32} {y1 : Nat} {x : Nat} {h : AHp} {post : Option Value → AHp → Prop} (ho : isO h x 0) : Ev sc 50 38 [l0, l1] [.ref a0, .ref x, .int y0, .ref y1] h post = Call 8 [.ref x, .ref a0] h (fun rv h2 => Ev sc 50 41 [l0, l1] (rv.toList ++ [.int y0, .ref y1]) h2 post) := e_v (i := 141) (z := 8) (r2 := 0) (as := [.ref a0]) (rest := [.int y0, .ref y1]) (by decide +kernel) rfl rfl (Nat.le_of_ble_eq_true rfl) rfl ho
theorem s50_41 {sc : Scr} {l0 l1 : Value} {x z : Int32} {stk : List Value} {h : AHp} {post : Option Value → AHp → Prop} : Ev sc 50 41 [l0, l1] (.int z :: .int x :: stk) h post = Ev sc 50 42 [l0, l1] (.int (x + z) :: stk) h post := e_1 (e := (41, .iadd, 0, 0)) (q := (42, [l0, l1], (.int (x + z) :: stk), h)) (by decide +kernel) rfl rfl
theorem s50_42 {sc : Scr} {l0 l1 : Value} {x : Nat} {v : Int32} {stk : List Value} {h : AHp} {post : Option Value → AHp → Prop} : Ev sc 50 42 [l0, l1] (.int v :: .ref x :: stk) h post = oB (stf h x 3 10 (.int v)) (fun h2 => Ev sc 50 45 [l0, l1] stk h2 post) := e_put (i := 49) (r1 := 3) (r2 := 10) (by decide +kernel)
theorem s50_45 {sc : Scr} {l1 : Value} {x : Nat} {stk : List Value} {h : AHp} {post : Option Value → AHp → Prop} : Ev sc 50 45 [.ref x, l1] stk h post = Ev sc 50 46 [.ref x, l1] (.ref x :: stk) h post := e_1 (e := (45, .aload_n 0, 0, 0)) (q := (46, [.ref x, l1], (.ref x :: stk), h)) (by decide +kernel) rfl rfl
theorem s50_46 {sc : Scr} {l0 l1 : Value} {x : Nat} {stk : List Value} {h : AHp} {post : Option Value → AHp → Prop} : Ev sc 50 46 [l0, l1] (.ref x :: stk) h post = Ev sc 50 47 [l0, l1] (.ref x :: .ref x :: stk) h post := e_1 (e := (46, .dup, 0, 0)) (q := (47, [l0, l1], (.ref x :: .ref x :: stk), h)) (by decide +kernel) rfl rfl
theorem s50_47 {sc : Scr} {l0 l1 : Value} {x : Nat} {stk : List Value} {h : AHp} {post : Option Value → AHp → Prop} : Ev sc 50 47 [l0, l1] (.ref x :: stk) h post = oB (fldv h x 3 8) (fun v => Ev sc 50 50 [l0, l1] (v :: stk) h post) := e_get (i := 43) (r1 := 3) (r2 := 8) (by decide +kernel)
theorem s50_50 {sc : Scr} {l0 l1 : Value}  {stk : List Value} {h : AHp} {post : Option Value → AHp → Prop} : Ev sc 50 50 [l0, l1] stk h post = Ev sc 50 51 [l0, l1] (.int (1) :: stk) h post := e_1 (e := (50, .iconst 1, 0, 0)) (q := (51, [l0, l1], (.int (1) :: stk), h)) (by decide +kernel) rfl rfl
theorem s50_51 {sc : Scr} {l0 l1 : Value} {x z : Int32} {stk : List Value} {h : AHp} {post : Option Value → AHp → Prop} : Ev sc 50 51 [l0, l1] (.int z :: .int x :: stk) h post = Ev sc 50 52 [l0, l1] (.int (x + z) :: stk) h post := e_1 (e := (51, .iadd, 0, 0)) (q := (52, [l0, l1], (.int (x + z) :: stk), h)) (by decide +kernel) rfl rfl
theorem s50_52 {sc : Scr} {l0 l1 : Value} {x : Nat} {v : Int32} {stk : List Value} {h : AHp} {post : Option Value → AHp → Prop} : Ev sc 50 52 [l0, l1] (.int v :: .ref x :: stk) h post = oB (stf h x 3 8 (.int v)) (fun h2 => Ev sc 50 55 [l0, l1] stk h2 post) := e_put (i := 43) (r1 := 3) (r2 := 8) (by decide +kernel)
theorem s50_55 {sc : Scr} {l0 l1 : Value}  {h : AHp} {post : Option Value → AHp → Prop} : Ev sc 50 55 [l0, l1] [] h post = post none h := e_r (e := (55, .return_, 0, 0)) (by decide +kernel) rfl rfl
-- 51 X3_removeLetters (I)V
theorem s51_e {a0 : Nat} {a1 : Int32} {h : AHp} {post : Option Value → AHp → Prop} : Call 51 [.ref a0, .int a1] h post = Ev none 51 0 [.ref a0, .int a1, .long 0, .long 0] [] h post := rfl
theorem s51_0 {sc : Scr} {l0 l2 l3 : Value} {x : Int32} {stk : List Value} {h : AHp} {post : Option Value → AHp → Prop} : Ev sc 51 0 [l0, .int x, l2, l3] stk h post = Ev sc 51 1 [l0, .int x, l2, l3] (.int x :: stk) h post := e_1 (e := (0, .iload_n 1, 0, 0)) (q := (1, [l0, .int x, l2, l3], (.int x :: stk), h)) (by decide +kernel) rfl rfl
theorem s51_1 {sc : Scr} {l0 l1 l2 l3 : Value} {x : Int32} {stk : List Value} {h : AHp} {post : Option Value → AHp → Prop} : Ev sc 51 1 [l0, l1, l2, l3] (.int x :: stk) h post = Ev sc 51 2 [l0, l1, .int x, l3] stk h post := e_1 (e := (1, .istore_n 2, 0, 0)) (q := (2, [l0, l1, .int x, l3], stk, h)) (by decide +kernel) rfl rfl
theorem s51_2 {sc : Scr} {l0 l1 l3 : Value} {x : Int32} {stk : List Value} {h : AHp} {post : Option Value → AHp → Prop} : Ev sc 51 2 [l0, l1, .int x, l3] stk h post = Ev sc 51 3 [l0, l1, .int x, l3] (.int x :: stk) h post := e_1 (e := (2, .iload_n 2, 0, 0)) (q := (3, [l0, l1, .int x, l3], (.int x :: stk), h)) (by decide +kernel) rfl rfl
theorem s51_3 {sc : Scr} {l1 l2 l3 : Value} {x : Nat} {stk : List Value} {h : AHp} {post : Option Value → AHp → Prop} : Ev sc 51 3 [.ref x, l1, l2, l3] stk h post = Ev sc 51 4 [.ref x, l1, l2, l3] (.ref x :: stk) h post := e_1 (e := (3, .aload_n 0, 0, 0)) (q := (4, [.ref x, l1, l2, l3], (.ref x :: stk), h)) (by decide +kernel) rfl rfl
theorem s51_4 {sc : Scr} {l0 l1 l2 l3 : Value} {x : Nat} {stk : List Value} {h : AHp} {post : Option Value → AHp → Prop} : Ev sc 51 4 [l0, l1, l2, l3] (.ref x :: stk) h post = oB (fldv h x 3 6) (fun v => Ev sc 51 7 [l0, l1, l2, l3] (v :: stk) h post) := e_get (i := 37) (r1 := 3) (r2 := 6) (by decide +kernel)
theorem s51_7 {sc : Scr} {l0 l1 l2 l3 : Value} {x z : Int32} {stk : List Value} {h : AHp} {post : Option Value → AHp → Prop} : Ev sc 51 7 [l0, l1, l2, l3] (.int z :: .int x :: stk) h post = (if z ≤ x then Ev sc 51 46 [l0, l1, l2, l3] stk h post else Ev sc 51 10 [l0, l1, l2, l3] stk h post) := e_icmp_ge (o := 39) (r1 := 0) (r2 := 0) 46 (by decide +kernel) rfl
theorem s51_10 {sc : Scr} {l1 l2 l3 : Value} {x : Nat} {stk : List Value} {h : AHp} {post : Option Value → AHp → Prop} : Ev sc 51 10 [.ref x, l1, l2, l3] stk h post = Ev sc 51 11 [.ref x, l1, l2, l3] (.ref x :: stk) h post := e_1 (e := (10, .aload_n 0, 0, 0)) (q := (11, [.ref x, l1, l2, l3], (.ref x :: stk), h)) (by decide +kernel) rfl rfl
theorem s51_11 {sc : Scr} {l0 l1 l2 l3 : Value} {x : Nat} {stk : List Value} {h : AHp} {post : Option Value → AHp → Prop} : Ev sc 51 11 [l0, l1, l2, l3] (.ref x :: stk) h post = oB (fldv h x 3 5) (fun v => Ev sc 51 14 [l0, l1, l2, l3] (v :: stk) h post) := e_get (i := 33) (r1 := 3) (r2 := 5) (by decide +kernel)
theorem s51_14 {sc : Scr} {l0 l1 l3 : Value} {x : Int32} {stk : List Value} {h : AHp} {post : Option Value → AHp → Prop} : Ev sc 51 14 [l0, l1, .int x, l3] stk h post = Ev sc 51 15 [l0, l1, .int x, l3] (.int x :: stk) h post := e_1 (e := (14, .iload_n 2, 0, 0)) (q := (15, [l0, l1, .int x, l3], (.int x :: stk), h)) (by decide +kernel) rfl rfl
theorem s51_15 {sc : Scr} {l0 l2 l3 : Value} {x : Int32} {stk : List Value} {h : AHp} {post : Option Value → AHp → Prop} : Ev sc 51 15 [l0, .int x, l2, l3] stk h post = Ev sc 51 16 [l0, .int x, l2, l3] (.int x :: stk) h post := e_1 (e := (15, .iload_n 1, 0, 0)) (q := (16, [l0, .int x, l2, l3], (.int x :: stk), h)) (by decide +kernel) rfl rfl
theorem s51_16 {sc : Scr} {l0 l1 l2 l3 : Value} {x z : Int32} {stk : List Value} {h : AHp} {post : Option Value → AHp → Prop} : Ev sc 51 16 [l0, l1, l2, l3] (.int z :: .int x :: stk) h post = Ev sc 51 17 [l0, l1, l2, l3] (.int (x - z) :: stk) h post := e_1 (e := (16, .isub, 0, 0)) (q := (17, [l0, l1, l2, l3], (.int (x - z) :: stk), h)) (by decide +kernel) rfl rfl
theorem s51_17 {sc : Scr} {l0 l1 l2 l3 : Value} {x : Nat} {j : Int32} {stk : List Value} {h : AHp} {post : Option Value → AHp → Prop} : Ev sc 51 17 [l0, l1, l2, l3] (.int j :: .ref x :: stk) h post = oB (ldq h x j) (fun v => Ev sc 51 18 [l0, l1, l2, l3] (v :: stk) h post) := e_ldq (r1 := 0) (r2 := 0) (by decide +kernel)
theorem s51_18 {sc : Scr} {l0 l1 l2 l3 : Value} {x : Nat} {stk : List Value} {h : AHp} {post : Option Value → AHp → Prop} : Ev sc 51 18 [l0, l1, l2, l3] (.ref x :: stk) h post = Ev sc 51 19 [l0, l1, l2, .ref x] stk h post := e_1 (e := (18, .astore_n 3, 0, 0)) (q := (19, [l0, l1, l2, .ref x], stk, h)) (by decide +kernel) rfl rfl
theorem s51_19 {sc : Scr} {l1 l2 l3 : Value} {x : Nat} {stk : List Value} {h : AHp} {post : Option Value → AHp → Prop} : Ev sc 51 19 [.ref x, l1, l2, l3] stk h post = Ev sc 51 20 [.ref x, l1, l2, l3] (.ref x :: stk) h post := e_1 (e := (19, .aload_n 0, 0, 0)) (q := (20, [.ref x, l1, l2, l3], (.ref x :: stk), h)) (by decide +kernel) rfl rfl
theorem s51_20 {sc : Scr} {l0 l1 l2 l3 : Value} {x : Nat} {stk : List Value} {h : AHp} {post : Option Value → AHp → Prop} : Ev sc 51 20 [l0, l1, l2, l3] (.ref x :: stk) h post = oB (fldv h x 3 5) (fun v => Ev sc 51 23 [l0, l1, l2, l3] (v :: stk) h post) := e_get (i := 33) (r1 := 3) (r2 := 5) (by decide +kernel)
theorem s51_23 {sc : Scr} {l0 l1 l3 : Value} {x : Int32} {stk : List Value} {h : AHp} {post : Option Value → AHp → Prop} : Ev sc 51 23 [l0, l1, .int x, l3] stk h post = Ev sc 51 24 [l0, l1, .int x, l3] (.int x :: stk) h post := e_1 (e := (23, .iload_n 2, 0, 0)) (q := (24, [l0, l1, .int x, l3], (.int x :: stk), h)) (by decide +kernel) rfl rfl
theorem s51_24 {sc : Scr} {l0 l2 l3 : Value} {x : Int32} {stk : List Value} {h : AHp} {post : Option Value → AHp → Prop} : Ev sc 51 24 [l0, .int x, l2, l3] stk h post = Ev sc 51 25 [l0, .int x, l2, l3] (.int x :: stk) h post := e_1 (e := (24, .iload_n 1, 0, 0)) (q := (25, [l0, .int x, l2, l3], (.int x :: stk), h)) (by decide +kernel) rfl rfl
theorem s51_25 {sc : Scr} {l0 l1 l2 l3 : Value} {x z : Int32} {stk : List Value} {h : AHp} {post : Option Value → AHp → Prop} : Ev sc 51 25 [l0, l1, l2, l3] (.int z :: .int x :: stk) h post = Ev sc 51 26 [l0, l1, l2, l3] (.int (x - z) :: stk) h post := e_1 (e := (25, .isub, 0, 0)) (q := (26, [l0, l1, l2, l3], (.int (x - z) :: stk), h)) (by decide +kernel) rfl rfl
theorem s51_26 {sc : Scr} {l1 l2 l3 : Value} {x : Nat} {stk : List Value} {h : AHp} {post : Option Value → AHp → Prop} : Ev sc 51 26 [.ref x, l1, l2, l3] stk h post = Ev sc 51 27 [.ref x, l1, l2, l3] (.ref x :: stk) h post := e_1 (e := (26, .aload_n 0, 0, 0)) (q := (27, [.ref x, l1, l2, l3], (.ref x :: stk), h)) (by decide +kernel) rfl rfl
theorem s51_27 {sc : Scr} {l0 l1 l2 l3 : Value} {x : Nat} {stk : List Value} {h : AHp} {post : Option Value → AHp → Prop} : Ev sc 51 27 [l0, l1, l2, l3] (.ref x :: stk) h post = oB (fldv h x 3 5) (fun v => Ev sc 51 30 [l0, l1, l2, l3] (v :: stk) h post) := e_get (i := 33) (r1 := 3) (r2 := 5) (by decide +kernel)
theorem s51_30 {sc : Scr} {l0 l1 l3 : Value} {x : Int32} {stk : List Value} {h : AHp} {post : Option Value → AHp → Prop} : Ev sc 51 30 [l0, l1, .int x, l3] stk h post = Ev sc 51 31 [l0, l1, .int x, l3] (.int x :: stk) h post := e_1 (e := (30, .iload_n 2, 0, 0)) (q := (31, [l0, l1, .int x, l3], (.int x :: stk), h)) (by decide +kernel) rfl rfl
theorem s51_31 {sc : Scr} {l0 l1 l2 l3 : Value} {x : Nat} {j : Int32} {stk : List Value} {h : AHp} {post : Option Value → AHp → Prop} : Ev sc 51 31 [l0, l1, l2, l3] (.int j :: .ref x :: stk) h post = oB (ldq h x j) (fun v => Ev sc 51 32 [l0, l1, l2, l3] (v :: stk) h post) := e_ldq (r1 := 0) (r2 := 0) (by decide +kernel)
theorem s51_32 {sc : Scr} {l0 l1 l2 l3 : Value} {x v : Nat} {j : Int32} {stk : List Value} {h : AHp} {post : Option Value → AHp → Prop} : Ev sc 51 32 [l0, l1, l2, l3] (.ref v :: .int j :: .ref x :: stk) h post = oB (stq h x j v) (fun h2 => Ev sc 51 33 [l0, l1, l2, l3] stk h2 post) := e_stq (r1 := 0) (r2 := 0) (by decide +kernel)
theorem s51_33 {sc : Scr} {l1 l2 l3 : Value} {x : Nat} {stk : List Value} {h : AHp} {post : Option Value → AHp → Prop} : Ev sc 51 33 [.ref x, l1, l2, l3] stk h post = Ev sc 51 34 [.ref x, l1, l2, l3] (.ref x :: stk) h post := e_1 (e := (33, .aload_n 0, 0, 0)) (q := (34, [.ref x, l1, l2, l3], (.ref x :: stk), h)) (by decide +kernel) rfl rfl
theorem s51_34 {sc : Scr} {l0 l1 l2 l3 : Value} {x : Nat} {stk : List Value} {h : AHp} {post : Option Value → AHp → Prop} : Ev sc 51 34 [l0, l1, l2, l3] (.ref x :: stk) h post = oB (fldv h x 3 5) (fun v => Ev sc 51 37 [l0, l1, l2, l3] (v :: stk) h post) := e_get (i := 33) (r1 := 3) (r2 := 5) (by decide +kernel)
theorem s51_37 {sc : Scr} {l0 l1 l3 : Value} {x : Int32} {stk : List Value} {h : AHp} {post : Option Value → AHp → Prop} : Ev sc 51 37 [l0, l1, .int x, l3] stk h post = Ev sc 51 38 [l0, l1, .int x, l3] (.int x :: stk) h post := e_1 (e := (37, .iload_n 2, 0, 0)) (q := (38, [l0, l1, .int x, l3], (.int x :: stk), h)) (by decide +kernel) rfl rfl
theorem s51_38 {sc : Scr} {l0 l1 l2 : Value} {x : Nat} {stk : List Value} {h : AHp} {post : Option Value → AHp → Prop} : Ev sc 51 38 [l0, l1, l2, .ref x] stk h post = Ev sc 51 39 [l0, l1, l2, .ref x] (.ref x :: stk) h post := e_1 (e := (38, .aload_n 3, 0, 0)) (q := (39, [l0, l1, l2, .ref x], (.ref x :: stk), h)) (by decide +kernel) rfl rfl
theorem s51_39 {sc : Scr} {l0 l1 l2 l3 : Value} {x v : Nat} {j : Int32} {stk : List Value} {h : AHp} {post : Option Value → AHp → Prop} : Ev sc 51 39 [l0, l1, l2, l3] (.ref v :: .int j :: .ref x :: stk) h post = oB (stq h x j v) (fun h2 => Ev sc 51 40 [l0, l1, l2, l3] stk h2 post) := e_stq (r1 := 0) (r2 := 0) (by decide +kernel)
theorem s51_40 {sc : Scr} {l0 l1 l3 : Value} {x : Int32} {stk : List Value} {h : AHp} {post : Option Value → AHp → Prop} : Ev sc 51 40 [l0, l1, .int x, l3] stk h post = Ev sc 51 43 [l0, l1, .int (x + 1), l3] stk h post := e_1 (e := (40, .iinc 2 1, 0, 0)) (q := (43, [l0, l1, .int (x + 1), l3], stk, h)) (by decide +kernel) rfl rfl
theorem s51_43 {sc : Scr} {l0 l1 l2 l3 : Value}  {stk : List Value} {h : AHp} {post : Option Value → AHp → Prop} : Ev sc 51 43 [l0, l1, l2, l3] stk h post = Ev sc 51 2 [l0, l1, l2, l3] stk h post := e_1 (e := (43, .goto (-41), 0, 0)) (q := (2, [l0, l1, l2, l3], stk, h)) (by decide +kernel) rfl rfl
theorem s51_46 {sc : Scr} {l1 l2 l3 : Value} {x : Nat} {stk : List Value} {h : AHp} {post : Option Value → AHp → Prop} : Ev sc 51 46 [.ref x, l1, l2, l3] stk h post = Ev sc 51 47 [.ref x, l1, l2, l3] (.ref x :: stk) h post := e_1 (e := (46, .aload_n 0, 0, 0)) (q := (47, [.ref x, l1, l2, l3], (.ref x :: stk), h)) (by decide +kernel) rfl rfl
theorem s51_47 {sc : Scr} {l0 l1 l2 l3 : Value} {x : Nat} {stk : List Value} {h : AHp} {post : Option Value → AHp → Prop} : Ev sc 51 47 [l0, l1, l2, l3] (.ref x :: stk) h post = Ev sc 51 48 [l0, l1, l2, l3] (.ref x :: .ref x :: stk) h post := e_1 (e := (47, .dup, 0, 0)) (q := (48, [l0, l1, l2, l3], (.ref x :: .ref x :: stk), h)) (by decide +kernel) rfl rfl
theorem s51_48 {sc : Scr} {l0 l1 l2 l3 : Value} {x : Nat} {stk : List Value} {h : AHp} {post : Option Value → AHp → Prop} : Ev sc 51 48 [l0, l1, l2, l3] (.ref x :: stk) h post = oB (fldv h x 3 6) (fun v => Ev sc 51 51 [l0, l1, l2, l3] (v :: stk) h post) := e_get (i := 37) (r1 := 3) (r2 := 6) (by decide +kernel)
theorem s51_51 {sc : Scr} {l0 l2 l3 : Value} {x : Int32} {stk : List Value} {h : AHp} {post : Option Value → AHp → Prop} : Ev sc 51 51 [l0, .int x, l2, l3] stk h post = Ev sc 51 52 [l0, .int x, l2, l3] (.int x :: stk) h post := e_1 (e := (51, .iload_n 1, 0, 0)) (q := (52, [l0, .int x, l2, l3], (.int x :: stk), h)) (by decide +kernel) rfl rfl
theorem s51_52 {sc : Scr} {l0 l1 l2 l3 : Value} {x z : Int32} {stk : List Value} {h : AHp} {post : Option Value → AHp → Prop} : Ev sc 51 52 [l0, l1, l2, l3] (.int z :: .int x :: stk) h post = Ev sc 51 53 [l0, l1, l2, l3] (.int (x - z) :: stk) h post := e_1 (e := (52, .isub, 0, 0)) (q := (53, [l0, l1, l2, l3], (.int (x - z) :: stk), h)) (by decide +kernel) rfl rfl
theorem s51_53 {sc : Scr} {l0 l1 l2 l3 : Value} {x : Nat} {v : Int32} {stk : List Value} {h : AHp} {post : Option Value → AHp → Prop} : Ev sc 51 53 [l0, l1, l2, l3] (.int v :: .ref x :: stk) h post = oB (stf h x 3 6 (.int v)) (fun h2 => Ev sc 51 56 [l0, l1, l2, l3] stk h2 post) := e_put (i := 37) (r1 := 3) (r2 := 6) (by decide +kernel)
theorem s51_56 {sc : Scr} {l0 l1 l2 l3 : Value}  {h : AHp} {post : Option Value → AHp → Prop} : Ev sc 51 56 [l0, l1, l2, l3] [] h post = post none h := e_r (e := (56, .return_, 0, 0)) (by decide +kernel) rfl rfl
-- 52 X3_mergeUntilAllAgree ()I
theorem s52_e {a0 : Nat} {h : AHp} {post : Option Value → AHp → Prop} : Call 52 [.ref a0] h post = Ev none 52 0 [.ref a0, .long 0, .long 0, .long 0] [] h post := rfl
theorem s52_0 {sc : Scr} {l0 l1 l2 l3 : Value}  {stk : List Value} {h : AHp} {post : Option Value → AHp → Prop} : Ev sc 52 0 [l0, l1, l2, l3] stk h post = Ev sc 52 1 [l0, l1, l2, l3] (.int (0) :: stk) h post := e_1 (e := (0, .iconst 0, 0, 0)) (q := (1, [l0, l1, l2, l3], (.int (0) :: stk), h)) (by decide +kernel) rfl rfl
theorem s52_1 {sc : Scr} {l0 l1 l2 l3 : Value} {x : Int32} {stk : List Value} {h : AHp} {post : Option Value → AHp → Prop} : Ev sc 52 1 [l0, l1, l2, l3] (.int x :: stk) h post = Ev sc 52 2 [l0, .int x, l2, l3] stk h post := e_1 (e := (1, .istore_n 1, 0, 0)) (q := (2, [l0, .int x, l2, l3], stk, h)) (by decide +kernel) rfl rfl
theorem s52_2 {sc : Scr} {l1 l2 l3 : Value} {x : Nat} {stk : List Value} {h : AHp} {post : Option Value → AHp → Prop} : Ev sc 52 2 [.ref x, l1, l2, l3] stk h post = Ev sc 52 3 [.ref x, l1, l2, l3] (.ref x :: stk) h post := e_1 (e := (2, .aload_n 0, 0, 0)) (q := (3, [.ref x, l1, l2, l3], (.ref x :: stk), h)) (by decide +kernel) rfl rfl
theorem s52_3 {sc : Scr} {l0 l1 l2 l3 : Value}  {stk : List Value} {h : AHp} {post : Option Value → AHp → Prop} : Ev sc 52 3 [l0, l1, l2, l3] stk h post = Ev sc 52 4 [l0, l1, l2, l3] (.int (5) :: stk) h post := e_1 (e := (3, .iconst 5, 0, 0)) (q := (4, [l0, l1, l2, l3], (.int (5) :: stk), h)) (by decide +kernel) rfl rfl
theorem s52_4 {sc : Scr} {l0 l1 l2 l3 : Value} {a0 : Int32}  {x : Nat} {h : AHp} {post : Option Value → AHp → Prop} (ho : isO h x 3) : Ev sc 52 4 [l0, l1, l2, l3] [.int a0, .ref x] h post = Call 53 [.ref x, .int a0] h (fun rv h2 => Ev sc 52 7 [l0, l1, l2, l3] (rv.toList ++ []) h2 post) := e_v (i := 166) (z := 53) (r2 := 0) (as := [.int a0]) (rest := []) (by decide +kernel) rfl rfl (Nat.le_of_ble_eq_true rfl) rfl ho
theorem s52_7 {sc : Scr} {l0 l1 l2 l3 : Value} {x : Int32} {stk : List Value} {h : AHp} {post : Option Value → AHp → Prop} : Ev sc 52 7 [l0, l1, l2, l3] (.int x :: stk) h post = Ev sc 52 8 [l0, l1, .int x, l3] stk h post := e_1 (e := (7, .istore_n 2, 0, 0)) (q := (8, [l0, l1, .int x, l3], stk, h)) (by decide +kernel) rfl rfl
theorem s52_8 {sc : Scr} {l0 l2 l3 : Value} {x : Int32} {stk : List Value} {h : AHp} {post : Option Value → AHp → Prop} : Ev sc 52 8 [l0, .int x, l2, l3] stk h post = Ev sc 52 9 [l0, .int x, l2, l3] (.int x :: stk) h post := e_1 (e := (8, .iload_n 1, 0, 0)) (q := (9, [l0, .int x, l2, l3], (.int x :: stk), h)) (by decide +kernel) rfl rfl
theorem s52_9 {sc : Scr} {l0 l1 l2 l3 : Value}  {stk : List Value} {h : AHp} {post : Option Value → AHp → Prop} : Ev sc 52 9 [l0, l1, l2, l3] stk h post = Ev sc 52 12 [l0, l1, l2, l3] (.int (1000) :: stk) h post := e_1 (e := (9, .sipush 1000, 0, 0)) (q := (12, [l0, l1, l2, l3], (.int (1000) :: stk), h)) (by decide +kernel) rfl rfl
theorem s52_12 {sc : Scr} {l0 l1 l2 l3 : Value} {x z : Int32} {stk : List Value} {h : AHp} {post : Option Value → AHp → Prop} : Ev sc 52 12 [l0, l1, l2, l3] (.int z :: .int x :: stk) h post = (if z ≤ x then Ev sc 52 57 [l0, l1, l2, l3] stk h post else Ev sc 52 15 [l0, l1, l2, l3] stk h post) := e_icmp_ge (o := 45) (r1 := 0) (r2 := 0) 57 (by decide +kernel) rfl
theorem s52_15 {sc : Scr} {l1 l2 l3 : Value} {x : Nat} {stk : List Value} {h : AHp} {post : Option Value → AHp → Prop} : Ev sc 52 15 [.ref x, l1, l2, l3] stk h post = Ev sc 52 16 [.ref x, l1, l2, l3] (.ref x :: stk) h post := e_1 (e := (15, .aload_n 0, 0, 0)) (q := (16, [.ref x, l1, l2, l3], (.ref x :: stk), h)) (by decide +kernel) rfl rfl
theorem s52_16 {sc : Scr} {l0 l1 l3 : Value} {x : Int32} {stk : List Value} {h : AHp} {post : Option Value → AHp → Prop} : Ev sc 52 16 [l0, l1, .int x, l3] stk h post = Ev sc 52 17 [l0, l1, .int x, l3] (.int x :: stk) h post := e_1 (e := (16, .iload_n 2, 0, 0)) (q := (17, [l0, l1, .int x, l3], (.int x :: stk), h)) (by decide +kernel) rfl rfl
theorem s52_17 {sc : Scr} {l0 l1 l2 l3 : Value} {a0 : Int32}  {x : Nat} {h : AHp} {post : Option Value → AHp → Prop} (ho : isO h x 3) : Ev sc 52 17 [l0, l1, l2, l3] [.int a0, .ref x] h post = Call 35 [.ref x, .int a0] h (fun rv h2 => Ev sc 52 20 [l0, l1, l2, l3] (rv.toList ++ []) h2 post) := e_v (i := 169) (z := 35) (r2 := 0) (as := [.int a0]) (rest := []) (by decide +kernel) rfl rfl (Nat.le_of_ble_eq_true rfl) rfl ho
theorem s52_20 {sc : Scr} {l1 l2 l3 : Value} {x : Nat} {stk : List Value} {h : AHp} {post : Option Value → AHp → Prop} : Ev sc 52 20 [.ref x, l1, l2, l3] stk h post = Ev sc 52 21 [.ref x, l1, l2, l3] (.ref x :: stk) h post := e_1 (e := (20, .aload_n 0, 0, 0)) (q := (21, [.ref x, l1, l2, l3], (.ref x :: stk), h)) (by decide +kernel) rfl rfl
theorem s52_21 {sc : Scr} {l0 l1 l2 l3 : Value} {x : Nat} {stk : List Value} {h : AHp} {post : Option Value → AHp → Prop} : Ev sc 52 21 [l0, l1, l2, l3] (.ref x :: stk) h post = oB (fldv h x 3 1) (fun v => Ev sc 52 24 [l0, l1, l2, l3] (v :: stk) h post) := e_get (i := 17) (r1 := 3) (r2 := 1) (by decide +kernel)
theorem s52_24 {sc : Scr} {l0 l1 l2 l3 : Value} {x z : Int32} {stk : List Value} {h : AHp} {post : Option Value → AHp → Prop} : Ev sc 52 24 [l0, l1, l2, l3] (.int z :: .int x :: stk) h post = (if x = z then Ev sc 52 57 [l0, l1, l2, l3] stk h post else Ev sc 52 27 [l0, l1, l2, l3] stk h post) := e_icmp_eq (o := 33) (r1 := 0) (r2 := 0) 57 (by decide +kernel) rfl
theorem s52_27 {sc : Scr} {l1 l2 l3 : Value} {x : Nat} {stk : List Value} {h : AHp} {post : Option Value → AHp → Prop} : Ev sc 52 27 [.ref x, l1, l2, l3] stk h post = Ev sc 52 28 [.ref x, l1, l2, l3] (.ref x :: stk) h post := e_1 (e := (27, .aload_n 0, 0, 0)) (q := (28, [.ref x, l1, l2, l3], (.ref x :: stk), h)) (by decide +kernel) rfl rfl
theorem s52_28 {sc : Scr} {l0 l1 l3 : Value} {x : Int32} {stk : List Value} {h : AHp} {post : Option Value → AHp → Prop} : Ev sc 52 28 [l0, l1, .int x, l3] stk h post = Ev sc 52 29 [l0, l1, .int x, l3] (.int x :: stk) h post := e_1 (e := (28, .iload_n 2, 0, 0)) (q := (29, [l0, l1, .int x, l3], (.int x :: stk), h)) (by decide +kernel) rfl rfl
theorem s52_29 {sc : Scr} {l0 l1 l2 l3 : Value} {a0 : Int32}  {x : Nat} {h : AHp} {post : Option Value → AHp → Prop} (ho : isO h x 3) : Ev sc 52 29 [l0, l1, l2, l3] [.int a0, .ref x] h post = Call 53 [.ref x, .int a0] h (fun rv h2 => Ev sc 52 32 [l0, l1, l2, l3] (rv.toList ++ []) h2 post) := e_v (i := 166) (z := 53) (r2 := 0) (as := [.int a0]) (rest := []) (by decide +kernel) rfl rfl (Nat.le_of_ble_eq_true rfl) rfl ho
theorem s52_32 {sc : Scr} {l0 l1 l2 l3 : Value} {x : Int32} {stk : List Value} {h : AHp} {post : Option Value → AHp → Prop} : Ev sc 52 32 [l0, l1, l2, l3] (.int x :: stk) h post = Ev sc 52 33 [l0, l1, l2, .int x] stk h post := e_1 (e := (32, .istore_n 3, 0, 0)) (q := (33, [l0, l1, l2, .int x], stk, h)) (by decide +kernel) rfl rfl
theorem s52_33 {sc : Scr} {l1 l2 l3 : Value} {x : Nat} {stk : List Value} {h : AHp} {post : Option Value → AHp → Prop} : Ev sc 52 33 [.ref x, l1, l2, l3] stk h post = Ev sc 52 34 [.ref x, l1, l2, l3] (.ref x :: stk) h post := e_1 (e := (33, .aload_n 0, 0, 0)) (q := (34, [.ref x, l1, l2, l3], (.ref x :: stk), h)) (by decide +kernel) rfl rfl
theorem s52_34 {sc : Scr} {l0 l1 l2 l3 : Value} {x : Nat} {stk : List Value} {h : AHp} {post : Option Value → AHp → Prop} : Ev sc 52 34 [l0, l1, l2, l3] (.ref x :: stk) h post = oB (fldv h x 3 0) (fun v => Ev sc 52 37 [l0, l1, l2, l3] (v :: stk) h post) := e_get (i := 11) (r1 := 3) (r2 := 0) (by decide +kernel)
theorem s52_37 {sc : Scr} {l0 l1 l3 : Value} {x : Int32} {stk : List Value} {h : AHp} {post : Option Value → AHp → Prop} : Ev sc 52 37 [l0, l1, .int x, l3] stk h post = Ev sc 52 38 [l0, l1, .int x, l3] (.int x :: stk) h post := e_1 (e := (37, .iload_n 2, 0, 0)) (q := (38, [l0, l1, .int x, l3], (.int x :: stk), h)) (by decide +kernel) rfl rfl
theorem s52_38 {sc : Scr} {l0 l1 l2 l3 : Value} {x : Nat} {j : Int32} {stk : List Value} {h : AHp} {post : Option Value → AHp → Prop} : Ev sc 52 38 [l0, l1, l2, l3] (.int j :: .ref x :: stk) h post = oB (ldq h x j) (fun v => Ev sc 52 39 [l0, l1, l2, l3] (v :: stk) h post) := e_ldq (r1 := 0) (r2 := 0) (by decide +kernel)
theorem s52_39 {sc : Scr} {l1 l2 l3 : Value} {x : Nat} {stk : List Value} {h : AHp} {post : Option Value → AHp → Prop} : Ev sc 52 39 [.ref x, l1, l2, l3] stk h post = Ev sc 52 40 [.ref x, l1, l2, l3] (.ref x :: stk) h post := e_1 (e := (39, .aload_n 0, 0, 0)) (q := (40, [.ref x, l1, l2, l3], (.ref x :: stk), h)) (by decide +kernel) rfl rfl
theorem s52_40 {sc : Scr} {l0 l1 l2 l3 : Value} {x : Nat} {stk : List Value} {h : AHp} {post : Option Value → AHp → Prop} : Ev sc 52 40 [l0, l1, l2, l3] (.ref x :: stk) h post = oB (fldv h x 3 0) (fun v => Ev sc 52 43 [l0, l1, l2, l3] (v :: stk) h post) := e_get (i := 11) (r1 := 3) (r2 := 0) (by decide +kernel)
theorem s52_43 {sc : Scr} {l0 l1 l2 : Value} {x : Int32} {stk : List Value} {h : AHp} {post : Option Value → AHp → Prop} : Ev sc 52 43 [l0, l1, l2, .int x] stk h post = Ev sc 52 44 [l0, l1, l2, .int x] (.int x :: stk) h post := e_1 (e := (43, .iload_n 3, 0, 0)) (q := (44, [l0, l1, l2, .int x], (.int x :: stk), h)) (by decide +kernel) rfl rfl
theorem s52_44 {sc : Scr} {l0 l1 l2 l3 : Value} {x : Nat} {j : Int32} {stk : List Value} {h : AHp} {post : Option Value → AHp → Prop} : Ev sc 52 44 [l0, l1, l2, l3] (.int j :: .ref x :: stk) h post = oB (ldq h x j) (fun v => Ev sc 52 45 [l0, l1, l2, l3] (v :: stk) h post) := e_ldq (r1 := 0) (r2 := 0) (by decide +kernel)
theorem s52_45 {sc : Scr} {l0 l1 l2 l3 : Value} {a0 : Nat}  {x : Nat} {h : AHp} {post : Option Value → AHp → Prop} (ho : isO h x 0) : Ev sc 52 45 [l0, l1, l2, l3] [.ref a0, .ref x] h post = Call 8 [.ref x, .ref a0] h (fun rv h2 => Ev sc 52 48 [l0, l1, l2, l3] (rv.toList ++ []) h2 post) := e_v (i := 141) (z := 8) (r2 := 0) (as := [.ref a0]) (rest := []) (by decide +kernel) rfl rfl (Nat.le_of_ble_eq_true rfl) rfl ho
theorem s52_48 {sc : Scr} {l0 l1 l2 l3 : Value} {x : Int32} {stk : List Value} {h : AHp} {post : Option Value → AHp → Prop} : Ev sc 52 48 [l0, l1, l2, l3] (.int x :: stk) h post = Ev sc 52 49 [l0, l1, l2, l3] stk h post := e_1 (e := (48, .pop, 0, 0)) (q := (49, [l0, l1, l2, l3], stk, h)) (by decide +kernel) rfl rfl
theorem s52_49 {sc : Scr} {l0 l1 l2 : Value} {x : Int32} {stk : List Value} {h : AHp} {post : Option Value → AHp → Prop} : Ev sc 52 49 [l0, l1, l2, .int x] stk h post = Ev sc 52 50 [l0, l1, l2, .int x] (.int x :: stk) h post := e_1 (e := (49, .iload_n 3, 0, 0)) (q := (50, [l0, l1, l2, .int x], (.int x :: stk), h)) (by decide +kernel) rfl rfl
theorem s52_50 {sc : Scr} {l0 l1 l2 l3 : Value} {x : Int32} {stk : List Value} {h : AHp} {post : Option Value → AHp → Prop} : Ev sc 52 50 [l0, l1, l2, l3] (.int x :: stk) h post = Ev sc 52 51 [l0, l1, .int x, l3] stk h post := e_1 (e := (50, .istore_n 2, 0, 0)) (q := (51, [l0, l1, .int x, l3], stk, h)) (by decide +kernel) rfl rfl
theorem s52_51 {sc : Scr} {l0 l2 l3 : Value} {x : Int32} {stk : List Value} {h : AHp} {post : Option Value → AHp → Prop} : Ev sc 52 51 [l0, .int x, l2, l3] stk h post = Ev sc 52 54 [l0, .int (x + 1), l2, l3] stk h post := e_1 (e := (51, .iinc 1 1, 0, 0)) (q := (54, [l0, .int (x + 1), l2, l3], stk, h)) (by decide +kernel) rfl rfl
theorem s52_54 {sc : Scr} {l0 l1 l2 l3 : Value}  {stk : List Value} {h : AHp} {post : Option Value → AHp → Prop} : Ev sc 52 54 [l0, l1, l2, l3] stk h post = Ev sc 52 8 [l0, l1, l2, l3] stk h post := e_1 (e := (54, .goto (-46), 0, 0)) (q := (8, [l0, l1, l2, l3], stk, h)) (by decide +kernel) rfl rfl
theorem s52_57 {sc : Scr} {l0 l2 l3 : Value} {x : Int32} {stk : List Value} {h : AHp} {post : Option Value → AHp → Prop} : Ev sc 52 57 [l0, .int x, l2, l3] stk h post = Ev sc 52 58 [l0, .int x, l2, l3] (.int x :: stk) h post := e_1 (e := (57, .iload_n 1, 0, 0)) (q := (58, [l0, .int x, l2, l3], (.int x :: stk), h)) (by decide +kernel) rfl rfl
theorem s52_58 {sc : Scr} {l0 l1 l2 l3 : Value} {x : Int32} {h : AHp} {post : Option Value → AHp → Prop} : Ev sc 52 58 [l0, l1, l2, l3] [.int x] h post = post (some (.int x)) h := e_r (e := (58, .ireturn, 0, 0)) (by decide +kernel) rfl rfl
-- 53 X3_viewBehind (I)I
theorem s53_e {a0 : Nat} {a1 : Int32} {h : AHp} {post : Option Value → AHp → Prop} : Call 53 [.ref a0, .int a1] h post = Ev none 53 0 [.ref a0, .int a1, .long 0, .long 0] [] h post := rfl
theorem s53_0 {sc : Scr} {l0 l1 l2 l3 : Value}  {stk : List Value} {h : AHp} {post : Option Value → AHp → Prop} : Ev sc 53 0 [l0, l1, l2, l3] stk h post = Ev sc 53 1 [l0, l1, l2, l3] (.int (1) :: stk) h post := e_1 (e := (0, .iconst 1, 0, 0)) (q := (1, [l0, l1, l2, l3], (.int (1) :: stk), h)) (by decide +kernel) rfl rfl
theorem s53_1 {sc : Scr} {l0 l1 l2 l3 : Value} {x : Int32} {stk : List Value} {h : AHp} {post : Option Value → AHp → Prop} : Ev sc 53 1 [l0, l1, l2, l3] (.int x :: stk) h post = Ev sc 53 2 [l0, l1, .int x, l3] stk h post := e_1 (e := (1, .istore_n 2, 0, 0)) (q := (2, [l0, l1, .int x, l3], stk, h)) (by decide +kernel) rfl rfl
theorem s53_2 {sc : Scr} {l0 l1 l3 : Value} {x : Int32} {stk : List Value} {h : AHp} {post : Option Value → AHp → Prop} : Ev sc 53 2 [l0, l1, .int x, l3] stk h post = Ev sc 53 3 [l0, l1, .int x, l3] (.int x :: stk) h post := e_1 (e := (2, .iload_n 2, 0, 0)) (q := (3, [l0, l1, .int x, l3], (.int x :: stk), h)) (by decide +kernel) rfl rfl
theorem s53_3 {sc : Scr} {l0 l1 l2 l3 : Value}  {stk : List Value} {h : AHp} {post : Option Value → AHp → Prop} : Ev sc 53 3 [l0, l1, l2, l3] stk h post = Ev sc 53 5 [l0, l1, l2, l3] (.int (6) :: stk) h post := e_1 (e := (3, .bipush 6, 0, 0)) (q := (5, [l0, l1, l2, l3], (.int (6) :: stk), h)) (by decide +kernel) rfl rfl
theorem s53_5 {sc : Scr} {l0 l1 l2 l3 : Value} {x z : Int32} {stk : List Value} {h : AHp} {post : Option Value → AHp → Prop} : Ev sc 53 5 [l0, l1, l2, l3] (.int z :: .int x :: stk) h post = (if z < x then Ev sc 53 31 [l0, l1, l2, l3] stk h post else Ev sc 53 8 [l0, l1, l2, l3] stk h post) := e_icmp_gt (o := 26) (r1 := 0) (r2 := 0) 31 (by decide +kernel) rfl
theorem s53_8 {sc : Scr} {l0 l2 l3 : Value} {x : Int32} {stk : List Value} {h : AHp} {post : Option Value → AHp → Prop} : Ev sc 53 8 [l0, .int x, l2, l3] stk h post = Ev sc 53 9 [l0, .int x, l2, l3] (.int x :: stk) h post := e_1 (e := (8, .iload_n 1, 0, 0)) (q := (9, [l0, .int x, l2, l3], (.int x :: stk), h)) (by decide +kernel) rfl rfl
theorem s53_9 {sc : Scr} {l0 l1 l3 : Value} {x : Int32} {stk : List Value} {h : AHp} {post : Option Value → AHp → Prop} : Ev sc 53 9 [l0, l1, .int x, l3] stk h post = Ev sc 53 10 [l0, l1, .int x, l3] (.int x :: stk) h post := e_1 (e := (9, .iload_n 2, 0, 0)) (q := (10, [l0, l1, .int x, l3], (.int x :: stk), h)) (by decide +kernel) rfl rfl
theorem s53_10 {sc : Scr} {l0 l1 l2 l3 : Value} {x z : Int32} {stk : List Value} {h : AHp} {post : Option Value → AHp → Prop} : Ev sc 53 10 [l0, l1, l2, l3] (.int z :: .int x :: stk) h post = Ev sc 53 11 [l0, l1, l2, l3] (.int (x + z) :: stk) h post := e_1 (e := (10, .iadd, 0, 0)) (q := (11, [l0, l1, l2, l3], (.int (x + z) :: stk), h)) (by decide +kernel) rfl rfl
theorem s53_11 {sc : Scr} {l0 l1 l2 l3 : Value}  {stk : List Value} {h : AHp} {post : Option Value → AHp → Prop} : Ev sc 53 11 [l0, l1, l2, l3] stk h post = Ev sc 53 13 [l0, l1, l2, l3] (.int (6) :: stk) h post := e_1 (e := (11, .bipush 6, 0, 0)) (q := (13, [l0, l1, l2, l3], (.int (6) :: stk), h)) (by decide +kernel) rfl rfl
theorem s53_13 {sc : Scr} {l0 l1 l2 l3 : Value} {x z : Int32} {stk : List Value} {h : AHp} {post : Option Value → AHp → Prop} (hz : ¬ z = 0) : Ev sc 53 13 [l0, l1, l2, l3] (.int z :: .int x :: stk) h post = Ev sc 53 14 [l0, l1, l2, l3] (.int (x - x / z * z) :: stk) h post := e_1 (e := (13, .irem, 0, 0)) (q := (14, [l0, l1, l2, l3], (.int (x - x / z * z) :: stk), h)) (by decide +kernel) rfl (by exact if_neg hz)
theorem s53_14 {sc : Scr} {l0 l1 l2 l3 : Value} {x : Int32} {stk : List Value} {h : AHp} {post : Option Value → AHp → Prop} : Ev sc 53 14 [l0, l1, l2, l3] (.int x :: stk) h post = Ev sc 53 15 [l0, l1, l2, .int x] stk h post := e_1 (e := (14, .istore_n 3, 0, 0)) (q := (15, [l0, l1, l2, .int x], stk, h)) (by decide +kernel) rfl rfl
theorem s53_15 {sc : Scr} {l1 l2 l3 : Value} {x : Nat} {stk : List Value} {h : AHp} {post : Option Value → AHp → Prop} : Ev sc 53 15 [.ref x, l1, l2, l3] stk h post = Ev sc 53 16 [.ref x, l1, l2, l3] (.ref x :: stk) h post := e_1 (e := (15, .aload_n 0, 0, 0)) (q := (16, [.ref x, l1, l2, l3], (.ref x :: stk), h)) (by decide +kernel) rfl rfl
theorem s53_16 {sc : Scr} {l0 l1 l2 : Value} {x : Int32} {stk : List Value} {h : AHp} {post : Option Value → AHp → Prop} : Ev sc 53 16 [l0, l1, l2, .int x] stk h post = Ev sc 53 17 [l0, l1, l2, .int x] (.int x :: stk) h post := e_1 (e := (16, .iload_n 3, 0, 0)) (q := (17, [l0, l1, l2, .int x], (.int x :: stk), h)) (by decide +kernel) rfl rfl
theorem s53_17 {sc : Scr} {l0 l1 l2 l3 : Value} {a0 : Int32}  {x : Nat} {h : AHp} {post : Option Value → AHp → Prop} (ho : isO h x 3) : Ev sc 53 17 [l0, l1, l2, l3] [.int a0, .ref x] h post = Call 27 [.ref x, .int a0] h (fun rv h2 => Ev sc 53 20 [l0, l1, l2, l3] (rv.toList ++ []) h2 post) := e_v (i := 88) (z := 27) (r2 := 0) (as := [.int a0]) (rest := []) (by decide +kernel) rfl rfl (Nat.le_of_ble_eq_true rfl) rfl ho
theorem s53_20 {sc : Scr} {l0 l1 l2 l3 : Value} {x : Int32} {stk : List Value} {h : AHp} {post : Option Value → AHp → Prop} : Ev sc 53 20 [l0, l1, l2, l3] (.int x :: stk) h post = (if x = 0 then Ev sc 53 25 [l0, l1, l2, l3] stk h post else Ev sc 53 23 [l0, l1, l2, l3] stk h post) := e_if_eq (o := 5) (r1 := 0) (r2 := 0) 25 (by decide +kernel) rfl
theorem s53_23 {sc : Scr} {l0 l1 l2 : Value} {x : Int32} {stk : List Value} {h : AHp} {post : Option Value → AHp → Prop} : Ev sc 53 23 [l0, l1, l2, .int x] stk h post = Ev sc 53 24 [l0, l1, l2, .int x] (.int x :: stk) h post := e_1 (e := (23, .iload_n 3, 0, 0)) (q := (24, [l0, l1, l2, .int x], (.int x :: stk), h)) (by decide +kernel) rfl rfl
theorem s53_24 {sc : Scr} {l0 l1 l2 l3 : Value} {x : Int32} {h : AHp} {post : Option Value → AHp → Prop} : Ev sc 53 24 [l0, l1, l2, l3] [.int x] h post = post (some (.int x)) h := e_r (e := (24, .ireturn, 0, 0)) (by decide +kernel) rfl rfl
theorem s53_25 {sc : Scr} {l0 l1 l3 : Value} {x : Int32} {stk : List Value} {h : AHp} {post : Option Value → AHp → Prop} : Ev sc 53 25 [l0, l1, .int x, l3] stk h post = Ev sc 53 28 [l0, l1, .int (x + 1), l3] stk h post := e_1 (e := (25, .iinc 2 1, 0, 0)) (q := (28, [l0, l1, .int (x + 1), l3], stk, h)) (by decide +kernel) rfl rfl
theorem s53_28 {sc : Scr} {l0 l1 l2 l3 : Value}  {stk : List Value} {h : AHp} {post : Option Value → AHp → Prop} : Ev sc 53 28 [l0, l1, l2, l3] stk h post = Ev sc 53 2 [l0, l1, l2, l3] stk h post := e_1 (e := (28, .goto (-26), 0, 0)) (q := (2, [l0, l1, l2, l3], stk, h)) (by decide +kernel) rfl rfl
theorem s53_31 {sc : Scr} {l0 l2 l3 : Value} {x : Int32} {stk : List Value} {h : AHp} {post : Option Value → AHp → Prop} : Ev sc 53 31 [l0, .int x, l2, l3] stk h post = Ev sc 53 32 [l0, .int x, l2, l3] (.int x :: stk) h post := e_1 (e := (31, .iload_n 1, 0, 0)) (q := (32, [l0, .int x, l2, l3], (.int x :: stk), h)) (by decide +kernel) rfl rfl
theorem s53_32 {sc : Scr} {l0 l1 l2 l3 : Value} {x : Int32} {h : AHp} {post : Option Value → AHp → Prop} : Ev sc 53 32 [l0, l1, l2, l3] [.int x] h post = post (some (.int x)) h := e_r (e := (32, .ireturn, 0, 0)) (by decide +kernel) rfl rfl
end
section
/-! Facts of the heap: objects, arrays, frames. -/
def Fr (lo hi : Nat) (h h' : AHp) : Prop := h'.length = h.length ∧ ∀ j, (j < lo ∨ hi ≤ j) → h'[j]? = h[j]?
theorem Fr.rf {lo hi : Nat} {h : AHp} : Fr lo hi h h := ⟨rfl, fun _ _ => rfl⟩
theorem Fr.tr {lo hi : Nat} {h h1 h2 : AHp} (a : Fr lo hi h h1) (c : Fr lo hi h1 h2) : Fr lo hi h h2 := ⟨c.1.trans a.1, fun j hj => (c.2 j hj).trans (a.2 j hj)⟩
theorem Fr.up {lo hi lo' hi' : Nat} {h g : AHp} (a : Fr lo hi h g) (h1 : lo' ≤ lo) (h2 : hi ≤ hi') : Fr lo' hi' h g := ⟨a.1, fun j hj => a.2 j (by omega)⟩
theorem Fr.set {i : Nat} {h : AHp} (e : AE) : Fr i (i + 1) h (h.set i e) := ⟨List.length_set, fun j hj => List.getElem?_set_ne (by omega)⟩
def HO (h : AHp) (a c : Nat) (fs : List Value) : Prop := h[a]? = some (.inr (c, fs))
def HA (h : AHp) (a n : Nat) (f : Nat → Int32) : Prop := ∃ g, h[a]? = some (.inl (0, n, .inl g)) ∧ ∀ i, i < n → g i = f i
def HQ (h : AHp) (a kd n : Nat) (f : Nat → Nat) : Prop := ∃ g, h[a]? = some (.inl (kd, n, .inr g)) ∧ ∀ i, i < n → g i = some (f i)
theorem nI_ok {w n : Nat} (hw : w < n) (hn : n < 2147483648) : ¬ (nI w < 0 ∨ n ≤ (nI w).toNatClampNeg) := nI_in hw hn
theorem nI_cl {w : Nat} (hw : w < 2147483648) : (nI w).toNatClampNeg = w := nI_clamp hw
section HF
variable {h h' : AHp} {a c n kd w : Nat} {fs : List Value} {f : Nat → Int32} {q : Nat → Nat}
theorem HO.ld {k : Nat} {v : Value} (hO : HO h a c fs) (hk : fs[k]? = some v) : fldv h a c k = some v := by
  unfold fldv
  rw [hO]
  dsimp only
  rw [if_pos rfl, hk]
theorem HO.is (hO : HO h a c fs) : isO h a c := ⟨fs, hO⟩
theorem HO.st {k : Nat} {v : Value} (hO : HO h a c fs) (hk : k < fs.length) (hv : vOk (tyAt c k) v = true) : ∃ h', stf h a c k v = some h' ∧ HO h' a c (fs.set k v) ∧ Fr a (a + 1) h h' := by
  refine ⟨h.set a (.inr (c, fs.set k v)), ?_, ?_, Fr.set _⟩
  · unfold stf
    rw [hO]
    dsimp only
    rw [if_pos ⟨rfl, hk, hv⟩]
  · unfold HO
    rw [List.getElem?_set_self (List.getElem?_eq_some_iff.mp hO).1]
theorem HO.fr {lo hi : Nat} (hO : HO h a c fs) (hf : Fr lo hi h h') (hd : a < lo ∨ hi ≤ a) : HO h' a c fs := by
  unfold HO
  rw [hf.2 a hd]
  exact hO
theorem HA.ld (hA : HA h a n f) (hw : w < n) (hn : n < 2147483648) : ldi h a (nI w) = some (f w) := by
  obtain ⟨g, h1, h2⟩ := hA
  unfold ldi
  rw [h1]
  show (if nI w < 0 ∨ n ≤ (nI w).toNatClampNeg then none else some (g (nI w).toNatClampNeg)) = _
  rw [if_neg (nI_ok hw hn), nI_cl (by omega), h2 w hw]
theorem HA.st {x : Int32} (hA : HA h a n f) (hw : w < n) (hn : n < 2147483648) : ∃ h', sti h a (nI w) x = some h' ∧ HA h' a n (upd f w x) ∧ Fr a (a + 1) h h' := by
  obtain ⟨g, h1, h2⟩ := hA
  refine ⟨h.set a (.inl (0, n, .inl (upd g w x))), ?_, ⟨upd g w x, ?_, fun i hi => ?_⟩, Fr.set _⟩
  · unfold sti
    rw [h1]
    show (if nI w < 0 ∨ n ≤ (nI w).toNatClampNeg then none else some (h.set a (.inl (0, n, .inl (upd g (nI w).toNatClampNeg x))))) = _
    rw [if_neg (nI_ok hw hn), nI_cl (by omega)]
  · rw [List.getElem?_set_self (List.getElem?_eq_some_iff.mp h1).1]
  · unfold upd
    by_cases q : i = w
    · rw [if_pos q, if_pos q]
    · rw [if_neg q, if_neg q, h2 i hi]
theorem HA.fr {lo hi : Nat} (hA : HA h a n f) (hf : Fr lo hi h h') (hd : a < lo ∨ hi ≤ a) : HA h' a n f := by
  obtain ⟨g, h1, h2⟩ := hA
  exact ⟨g, by rw [hf.2 a hd]; exact h1, h2⟩
theorem HA.to {f2 : Nat → Int32} (hA : HA h a n f) (he : ∀ i, i < n → f i = f2 i) : HA h a n f2 := by
  obtain ⟨g, h1, h2⟩ := hA
  exact ⟨g, h1, fun i hi => (h2 i hi).trans (he i hi)⟩
theorem HA.cp {a2 m : Nat} {g : Nat → Int32} (h1 : HA h a n f) (h2 : HA h a2 n g) (hm : m ≤ n) (hn : n < 2147483648) : ∃ h', acp h a 0 a2 0 (nI m) = some h' ∧ HA h' a2 n (fun i => if i < m then f i else g i) ∧ Fr a2 (a2 + 1) h h' := by
  obtain ⟨f', e1, e2⟩ := h1
  obtain ⟨g', e3, e4⟩ := h2
  refine ⟨h.set a2 (.inl (0, n, .inl (va_cpy f' g' 0 0 m))), ?_, ⟨va_cpy f' g' 0 0 m, ?_, fun i hi => ?_⟩, Fr.set _⟩
  · unfold acp
    rw [e1, e3]
    show (if (0 : Int32) < 0 ∨ (0 : Int32) < 0 ∨ nI m < 0 ∨ n < (0 : Int32).toNatClampNeg + (nI m).toNatClampNeg ∨ n < (0 : Int32).toNatClampNeg + (nI m).toNatClampNeg then none else some (h.set a2 (.inl (0, n, .inl (va_cpy f' g' (0 : Int32).toNatClampNeg (0 : Int32).toNatClampNeg (nI m).toNatClampNeg))))) = _
    have c0 : (0 : Int32).toNatClampNeg = 0 := rfl
    have cm : (nI m).toNatClampNeg = m := nI_cl (by omega)
    rw [if_neg, c0, cm]
    rw [c0, cm]
    rintro (q | q | q | q | q)
    · exact absurd q (by decide)
    · exact absurd q (by decide)
    · exact nI_pos (by omega) q
    · omega
    · omega
  · rw [List.getElem?_set_self (List.getElem?_eq_some_iff.mp e3).1]
  · unfold va_cpy
    show _ = (if i < m then f i else g i)
    by_cases q : i < m
    · rw [if_pos ⟨Nat.zero_le _, by omega⟩, if_pos q, Nat.zero_add, Nat.sub_zero, e2 i hi]
    · rw [if_neg (by omega), if_neg q, e4 i hi]
theorem HQ.ld (hA : HQ h a kd n q) (hw : w < n) (hn : n < 2147483648) (hk : ¬ (kd = 0 ∨ 4 ≤ kd)) : ldq h a (nI w) = some (.ref (q w)) := by
  obtain ⟨g, h1, h2⟩ := hA
  unfold ldq
  rw [h1]
  dsimp only
  rw [if_neg (fun z => by
    rcases z with z | z | z
    · exact hk (Or.inl z)
    · exact hk (Or.inr z)
    · exact nI_ok hw hn z), nI_cl (by omega), h2 w hw]
  rfl
theorem HQ.fr {lo hi : Nat} (hA : HQ h a kd n q) (hf : Fr lo hi h h') (hd : a < lo ∨ hi ≤ a) : HQ h' a kd n q := by
  obtain ⟨g, h1, h2⟩ := hA
  exact ⟨g, by rw [hf.2 a hd]; exact h1, h2⟩
theorem HQ.st {v c2 : Nat} (hA : HQ h a kd n q) (hw : w < n) (hn : n < 2147483648) (hk : ¬ (kd = 0 ∨ 4 ≤ kd)) (hv : isO h v c2) (hc : c2 = kindC kd) : ∃ h', stq h a (nI w) v = some h' ∧ HQ h' a kd n (fun i => if i = w then v else q i) ∧ Fr a (a + 1) h h' := by
  obtain ⟨g, h1, h2⟩ := hA
  obtain ⟨fs, h3⟩ := hv
  refine ⟨h.set a (.inl (kd, n, .inr (va_up g w (some v)))), ?_, ⟨va_up g w (some v), ?_, fun i hi => ?_⟩, Fr.set _⟩
  · unfold stq
    rw [h1, h3]
    dsimp only
    rw [if_neg (fun z => by
      rcases z with z | z | z | z
      · exact hk (Or.inl z)
      · exact hk (Or.inr z)
      · exact z hc
      · exact nI_ok hw hn z), nI_cl (by omega)]
  · rw [List.getElem?_set_self (List.getElem?_eq_some_iff.mp h1).1]
  · unfold va_up
    show _ = some (if i = w then v else q i)
    by_cases z : i = w
    · rw [if_pos z, if_pos z]
    · rw [if_neg z, if_neg z, h2 i hi]
end HF
theorem le8 {w : Nat} (hw : w < 8) : ¬ (8 : Int32) ≤ nI w := by
  have q := nI_ge (a := w) (b := 8) hw (by decide)
  exact q
theorem le6 {w : Nat} (hw : w < 6) : ¬ (6 : Int32) ≤ nI w := by
  have q := nI_ge (a := w) (b := 6) hw (by decide)
  exact q
theorem nI_s (w : Nat) : nI w + 1 = nI (w + 1) := nI_1 w
theorem z_nI : (0 : Int32) = nI 0 := rfl
def sm (f : Nat → Int32) : Nat → Int32
  | 0 => 0
  | n + 1 => sm f n + f n
end
section
/-! Knowledge: what a view knows; its methods. -/
abbrev Kn : Type := (Nat → Int32) × (Nat → Int32) × (Nat → Int32) × Int32
def HK (h : AHp) (k : Nat) (K : Kn) : Prop := HO h k 0 [.ref (k + 1), .ref (k + 2), .ref (k + 3), .int K.2.2.2] ∧ HA h (k + 1) 8 K.1 ∧ HA h (k + 2) 8 K.2.1 ∧ HA h (k + 3) 8 K.2.2.1
/-- a set as bits: has it this number -/
def bit (g : Int32) (w : Nat) : Prop := ¬ g &&& ((1 : Int32) <<< (nI w &&& 31)) = 0
def kRaise (K : Kn) (w : Nat) (x t : Int32) : Kn := (upd K.1 w (K.1 w + 1), upd K.2.1 w (K.2.1 w + x), upd K.2.2.1 w (K.2.2.1 w + t), K.2.2.2)
def kForget (K : Kn) (w : Nat) : Kn := (upd K.1 w 0, upd K.2.1 w 0, upd K.2.2.1 w 0, K.2.2.2)
def kSum (K : Kn) : Int32 := sm K.2.1 8 - sm K.2.2.1 8
/-- a set out of its members, as bits -/
def obits (p : Nat → Bool) : Nat → Int32
  | 0 => 0
  | n + 1 => if p n = true then obits p n ||| ((1 : Int32) <<< (nI n &&& 31)) else obits p n
def allb (p : Nat → Bool) : Nat → Bool
  | 0 => true
  | n + 1 => allb p n && p n
def cntI (p : Nat → Bool) : Nat → Int32
  | 0 => 0
  | n + 1 => if p n = true then cntI p n + 1 else cntI p n
def gb (g : Int32) (w : Nat) : Bool := !decide (g &&& ((1 : Int32) <<< (nI w &&& 31)) = 0)
def kEq (K O : Kn) : Bool := allb (fun w => decide (K.1 w = O.1 w)) 8 && decide (K.2.2.2 = O.2.2.2)
def pick (K O : Kn) (w : Nat) (a b : Int32) : Int32 := if gb (K.2.2.2 ||| O.2.2.2) w = true then 0 else if K.1 w < O.1 w then b else a
def kTk (K O : Kn) : Kn := (fun w => pick K O w (K.1 w) (O.1 w), fun w => pick K O w (K.2.1 w) (O.2.1 w), fun w => pick K O w (K.2.2.1 w) (O.2.2.1 w), K.2.2.2 ||| O.2.2.2)
def kCt (K O : Kn) : Int32 := cntI (fun w => !decide ((kTk K O).1 w = K.1 w)) 8
section KN
variable {h h' : AHp} {k w : Nat} {K : Kn}
theorem HK.f (hK : HK h k K) : fldv h k 0 0 = some (.ref (k + 1)) ∧ fldv h k 0 1 = some (.ref (k + 2)) ∧ fldv h k 0 2 = some (.ref (k + 3)) ∧ fldv h k 0 3 = some (.int K.2.2.2) ∧ isO h k 0 := ⟨hK.1.ld rfl, hK.1.ld rfl, hK.1.ld rfl, hK.1.ld rfl, hK.1.is⟩
theorem HK.lv (hK : HK h k K) (hw : w < 8) : ldi h (k + 1) (nI w) = some (K.1 w) := hK.2.1.ld hw (by decide)
theorem HK.la (hK : HK h k K) (hw : w < 8) : ldi h (k + 2) (nI w) = some (K.2.1 w) := hK.2.2.1.ld hw (by decide)
theorem HK.lt (hK : HK h k K) (hw : w < 8) : ldi h (k + 3) (nI w) = some (K.2.2.1 w) := hK.2.2.2.ld hw (by decide)
theorem HK.fr {lo hi : Nat} (hK : HK h k K) (hf : Fr lo hi h h') (hd : k + 4 ≤ lo ∨ hi ≤ k) : HK h' k K := ⟨hK.1.fr hf (by omega), hK.2.1.fr hf (by omega), hK.2.2.1.fr hf (by omega), hK.2.2.2.fr hf (by omega)⟩
theorem HK.sv (hK : HK h k K) (hw : w < 8) (x : Int32) : ∃ h', sti h (k + 1) (nI w) x = some h' ∧ HK h' k (upd K.1 w x, K.2) ∧ Fr k (k + 4) h h' := by
  obtain ⟨h', e, a, f⟩ := hK.2.1.st (x := x) hw (by decide)
  exact ⟨h', e, ⟨hK.1.fr f (by omega), a, hK.2.2.1.fr f (by omega), hK.2.2.2.fr f (by omega)⟩, f.up (by omega) (by omega)⟩
theorem HK.sa (hK : HK h k K) (hw : w < 8) (x : Int32) : ∃ h', sti h (k + 2) (nI w) x = some h' ∧ HK h' k (K.1, upd K.2.1 w x, K.2.2) ∧ Fr k (k + 4) h h' := by
  obtain ⟨h', e, a, f⟩ := hK.2.2.1.st (x := x) hw (by decide)
  exact ⟨h', e, ⟨hK.1.fr f (by omega), hK.2.1.fr f (by omega), a, hK.2.2.2.fr f (by omega)⟩, f.up (by omega) (by omega)⟩
theorem HK.s3 (hK : HK h k K) (hw : w < 8) (x : Int32) : ∃ h', sti h (k + 3) (nI w) x = some h' ∧ HK h' k (K.1, K.2.1, upd K.2.2.1 w x, K.2.2.2) ∧ Fr k (k + 4) h h' := by
  obtain ⟨h', e, a, f⟩ := hK.2.2.2.st (x := x) hw (by decide)
  exact ⟨h', e, ⟨hK.1.fr f (by omega), hK.2.1.fr f (by omega), hK.2.2.1.fr f (by omega), a⟩, f.up (by omega) (by omega)⟩
theorem HK.sg (hK : HK h k K) (x : Int32) : ∃ h', stf h k 0 3 (.int x) = some h' ∧ HK h' k (K.1, K.2.1, K.2.2.1, x) ∧ Fr k (k + 4) h h' := by
  obtain ⟨h', e, a, f⟩ := hK.1.st (k := 3) (v := .int x) (Nat.le_of_ble_eq_true rfl) rfl
  exact ⟨h', e, ⟨a, hK.2.1.fr f (by omega), hK.2.2.1.fr f (by omega), hK.2.2.2.fr f (by omega)⟩, f.up (by omega) (by omega)⟩
theorem HK.to {K2 : Kn} (hK : HK h k K) (he : ∀ i, i < 8 → K.1 i = K2.1 i ∧ K.2.1 i = K2.2.1 i ∧ K.2.2.1 i = K2.2.2.1 i) (hg : K.2.2.2 = K2.2.2.2) : HK h k K2 := ⟨by rw [← hg]; exact hK.1, hK.2.1.to (fun i hi => (he i hi).1), hK.2.2.1.to (fun i hi => (he i hi).2.1), hK.2.2.2.to (fun i hi => (he i hi).2.2)⟩
def b2i (c : Prop) [Decidable c] : Int32 := if c then 1 else 0
theorem c_knows (hK : HK h k K) (hw : w < 8) : ∀ post, Call 4 [.ref k, .int (nI w)] h post = post (some (.int (if 0 < K.1 w then 1 else 0))) h := by
  obtain ⟨f0, f1, f2, f3, fo⟩ := hK.f
  refine call_eq ?_
  simp only [s4_e, s4_0, s4_1, s4_4, s4_5, s4_6, s4_9, s4_10, s4_13, s4_14, f0, oB_some, hK.lv hw]
  by_cases hc : K.1 w ≤ 0
  · rw [if_pos hc, if_neg (Int32.not_lt.mpr hc)]; simp
  · rw [if_neg hc, if_pos (Int32.not_le.mp hc)]; simp
theorem c_hasGrave (hK : HK h k K) (w : Nat) : ∀ post, Call 5 [.ref k, .int (nI w)] h post = post (some (.int (if gb K.2.2.2 w = true then 1 else 0))) h := by
  obtain ⟨f0, f1, f2, f3, fo⟩ := hK.f
  refine call_eq ?_
  simp only [s5_e, s5_0, s5_1, s5_4, s5_5, s5_6, s5_7, s5_8, s5_11, s5_12, s5_15, s5_16, f3, oB_some]
  by_cases hc : K.2.2.2 &&& ((1 : Int32) <<< (nI w &&& 31)) = 0
  · simp [hc, gb]
  · simp [hc, gb]
theorem c_forgetPart (hK : HK h k K) (hw : w < 8) : Call 3 [.ref k, .int (nI w)] h (fun rv h' => rv = none ∧ HK h' k (kForget K w) ∧ Fr k (k + 4) h h') := by
  simp only [s3_e, s3_0, s3_1, s3_4, s3_5, s3_6, s3_7, s3_8, s3_11, s3_12, s3_13, s3_14, s3_15, s3_18, s3_19, s3_20, s3_21, hK.f, oB_some]
  obtain ⟨h1, e1, k1, r1⟩ := hK.sv hw 0
  simp only [s3_7, s3_8, s3_11, s3_12, s3_13, e1, oB_some, k1.f]
  obtain ⟨h2, e2, k2, r2⟩ := k1.sa hw 0
  simp only [s3_14, s3_15, s3_18, s3_19, s3_20, e2, oB_some, k2.f]
  obtain ⟨h3, e3, k3, r3⟩ := k2.s3 hw 0
  simp only [s3_21, e3, oB_some]
  exact ⟨trivial, k3, (r1.tr r2).tr r3⟩
theorem c_raise {x t : Int32} (hK : HK h k K) (hw : w < 8) : Call 6 [.ref k, .int (nI w), .int x, .int t] h (fun rv h' => rv = none ∧ HK h' k (kRaise K w x t) ∧ Fr k (k + 4) h h') := by
  simp only [s6_e, s6_0, s6_1, s6_4, s6_5, s6_6, s6_7, s6_8, s6_9, s6_10, s6_11, s6_14, s6_15, s6_16, s6_17, s6_18, s6_19, s6_20, s6_21, s6_24, s6_25, s6_26, s6_27, s6_28, s6_29, s6_30, hK.f, oB_some, hK.lv hw]
  obtain ⟨h1, e1, k1, r1⟩ := hK.sv hw (K.1 w + 1)
  simp only [s6_10, s6_11, s6_14, s6_15, s6_16, s6_17, s6_18, s6_19, e1, oB_some, k1.f, k1.la hw]
  obtain ⟨h2, e2, k2, r2⟩ := k1.sa hw (K.2.1 w + x)
  simp only [s6_20, s6_21, s6_24, s6_25, s6_26, s6_27, s6_28, s6_29, e2, oB_some, k2.f, k2.lt hw]
  obtain ⟨h3, e3, k3, r3⟩ := k2.s3 hw (K.2.2.1 w + t)
  simp only [s6_30, e3, oB_some]
  exact ⟨trivial, k3, (r1.tr r2).tr r3⟩
theorem c_allAdded (hK : HK h k K) : ∀ post, Call 10 [.ref k] h post = post (some (.int (sm K.2.1 8))) h := by
  refine call_eq ?_
  have loop : ∀ d w, w + d = 8 → Ev none 10 4 [.ref k, .int (sm K.2.1 w), .int (nI w)] [] h (fun r g => r = some (.int (sm K.2.1 8)) ∧ g = h) := by
    intro d
    induction d with
    | zero =>
      intro w hw
      obtain rfl : w = 8 := by omega
      simp only [s10_4, s10_5, s10_7, s10_25, s10_26, if_pos (show (8 : Int32) ≤ nI 8 by decide)]
      simp
    | succ d ih =>
      intro w hw
      have hw8 : w < 8 := by omega
      simp only [s10_4, s10_5, s10_7, if_neg (le8 hw8)]
      simp only [s10_10, s10_11, s10_12, s10_15, s10_16, s10_17, s10_18, s10_19, s10_22, hK.f, oB_some, hK.la hw8, nI_s]
      exact ih (w + 1) (by omega)
  simp only [s10_0, s10_1, s10_2, s10_3, s10_e]
  exact loop 8 0 rfl
theorem c_allTaken (hK : HK h k K) : ∀ post, Call 11 [.ref k] h post = post (some (.int (sm K.2.2.1 8))) h := by
  refine call_eq ?_
  have loop : ∀ d w, w + d = 8 → Ev none 11 4 [.ref k, .int (sm K.2.2.1 w), .int (nI w)] [] h (fun r g => r = some (.int (sm K.2.2.1 8)) ∧ g = h) := by
    intro d
    induction d with
    | zero =>
      intro w hw
      obtain rfl : w = 8 := by omega
      simp only [s11_4, s11_5, s11_7, s11_25, s11_26, if_pos (show (8 : Int32) ≤ nI 8 by decide)]
      simp
    | succ d ih =>
      intro w hw
      have hw8 : w < 8 := by omega
      simp only [s11_4, s11_5, s11_7, if_neg (le8 hw8)]
      simp only [s11_10, s11_11, s11_12, s11_15, s11_16, s11_17, s11_18, s11_19, s11_22, hK.f, oB_some, hK.lt hw8, nI_s]
      exact ih (w + 1) (by omega)
  simp only [s11_0, s11_1, s11_2, s11_3, s11_e]
  exact loop 8 0 rfl
theorem c_sum (hK : HK h k K) : ∀ post, Call 12 [.ref k] h post = post (some (.int (kSum K))) h := by
  refine call_eq ?_
  simp only [s12_e, s12_0, s12_1, s12_4, s12_5, s12_8, s12_9, hK.f, c_allAdded hK, c_allTaken hK, Option.toList_some, List.cons_append, List.nil_append]
  simp [kSum]
theorem c_knownWriters (hK : HK h k K) : ∀ post, Call 13 [.ref k] h post = post (some (.int (obits (fun w => decide (0 < K.1 w)) 8))) h := by
  refine call_eq ?_
  have loop : ∀ d w, w + d = 8 → Ev none 13 4 [.ref k, .int (obits (fun w => decide (0 < K.1 w)) w), .int (nI w)] [] h (fun r g => r = some (.int (obits (fun w => decide (0 < K.1 w)) 8)) ∧ g = h) := by
    intro d
    induction d with
    | zero =>
      intro w hw
      obtain rfl : w = 8 := by omega
      simp only [s13_4, s13_5, s13_7, s13_30, s13_31, if_pos (show (8 : Int32) ≤ nI 8 by decide)]
      simp
    | succ d ih =>
      intro w hw
      have hw8 : w < 8 := by omega
      simp only [s13_4, s13_5, s13_7, if_neg (le8 hw8)]
      simp only [s13_10, s13_11, s13_12, hK.f, c_knows hK hw8, Option.toList_some, List.cons_append, List.nil_append]
      have ih := ih (w + 1) (by omega)
      by_cases hc : 0 < K.1 w
      · simp only [s13_15, s13_18, s13_19, s13_20, s13_21, s13_22, s13_23, s13_24, s13_27, if_pos hc, if_neg (show ¬ (1 : Int32) = 0 by decide), nI_s]
        simpa only [obits, hc, decide_true, if_true] using ih
      · simp only [s13_15, s13_18, s13_19, s13_20, s13_21, s13_22, s13_23, s13_24, s13_27, if_neg hc, if_true, nI_s]
        simpa only [obits, hc, decide_false, if_false, Bool.false_eq_true] using ih
  simp only [s13_0, s13_1, s13_2, s13_3, s13_e]
  exact loop 8 0 rfl
theorem c_knowsTheSameAs {o : Nat} {O : Kn} (hK : HK h k K) (hO : HK h o O) : ∀ post, Call 9 [.ref k, .ref o] h post = post (some (.int (if kEq K O = true then 1 else 0))) h := by
  refine call_eq ?_
  have loop : ∀ d w, w + d = 8 → allb (fun w => decide (K.1 w = O.1 w)) w = true → Ev none 9 2 [.ref k, .ref o, .int (nI w)] [] h (fun r g => r = some (.int (if kEq K O = true then 1 else 0)) ∧ g = h) := by
    intro d
    induction d with
    | zero =>
      intro w hw ha
      obtain rfl : w = 8 := by omega
      simp only [s9_2, s9_3, s9_5, s9_31, s9_32, s9_35, s9_36, s9_39, if_pos (show (8 : Int32) ≤ nI 8 by decide), hK.f, hO.f, oB_some]
      by_cases hc : K.2.2.2 = O.2.2.2
      · rw [if_neg (fun q => q hc)]
        simp only [s9_42, s9_43, s9_46, s9_47]
        simp [kEq, ha, hc]
      · rw [if_pos hc]
        simp only [s9_42, s9_43, s9_46, s9_47]
        simp [kEq, hc]
    | succ d ih =>
      intro w hw ha
      have hw8 : w < 8 := by omega
      simp only [s9_2, s9_3, s9_5, if_neg (le8 hw8)]
      simp only [s9_8, s9_9, s9_12, s9_13, s9_14, s9_15, s9_18, s9_19, s9_20, hK.f, hO.f, oB_some, hK.lv hw8, hO.lv hw8]
      by_cases hc : K.1 w = O.1 w
      · rw [if_pos hc]
        simp only [s9_25, s9_28, nI_s]
        exact ih (w + 1) (by omega) (by simp [allb, ha, hc])
      · rw [if_neg hc]
        simp only [s9_23, s9_24]
        have hn : allb (fun w => decide (K.1 w = O.1 w)) 8 = false := by
          have key : ∀ n, w < n → allb (fun w => decide (K.1 w = O.1 w)) n = false := by
            intro n
            induction n with
            | zero => intro q; omega
            | succ n ihn =>
              intro q
              by_cases e : n = w
              · subst e; simp [allb, hc]
              · simp [allb, ihn (by omega)]
          exact key 8 hw8
        simp [kEq, hn]
  simp only [s9_0, s9_1, s9_e]
  exact loop 8 0 rfl rfl
theorem c_bequeath {e : Nat} (hK : HK h k K) (hw : w < 8) (he : e < 8) : Call 7 [.ref k, .int (nI w), .int (nI e)] h (fun rv h' => rv = none ∧ HK h' k ((kForget (kRaise K e (K.2.1 w) (K.2.2.1 w)) w).1, (kForget (kRaise K e (K.2.1 w) (K.2.2.1 w)) w).2.1, (kForget (kRaise K e (K.2.1 w) (K.2.2.1 w)) w).2.2.1, K.2.2.2 ||| ((1 : Int32) <<< (nI w &&& 31))) ∧ Fr k (k + 4) h h') := by
  simp only [s7_0, s7_1, s7_2, s7_3, s7_6, s7_7, s7_8, s7_9, s7_12, s7_13, s7_14, s7_e, hK.f, oB_some, hK.la hw, hK.lt hw]
  refine Call.mono (c_raise hK he) ?_
  rintro rv h1 ⟨rfl, k1, r1⟩
  simp only [Option.toList_none, List.nil_append, s7_17, s7_18, s7_19, k1.f]
  refine Call.mono (c_forgetPart k1 hw) ?_
  rintro rv h2 ⟨rfl, k2, r2⟩
  simp only [Option.toList_none, List.nil_append, s7_22, s7_23, s7_24, s7_27, s7_28, s7_29, s7_30, s7_31, k2.f, oB_some]
  obtain ⟨h3, e3, k3, r3⟩ := k2.sg (K.2.2.2 ||| ((1 : Int32) <<< (nI w &&& 31)))
  have e3' : stf h2 k 0 3 (.int ((kForget (kRaise K e (K.2.1 w) (K.2.2.1 w)) w).2.2.2 ||| ((1 : Int32) <<< (nI w &&& 31)))) = some h3 := e3
  simp only [e3', oB_some, s7_34]
  exact ⟨trivial, k3, (r1.tr r2).tr r3⟩
theorem c_copyK {o : Nat} {O : Kn} (hK : HK h k K) (hO : HK h o O) (hd : k + 4 ≤ o ∨ o + 4 ≤ k) : Call 1 [.ref k, .ref o] h (fun rv h' => rv = none ∧ HK h' k O ∧ Fr k (k + 4) h h') := by
  simp only [s1_0, s1_1, s1_4, s1_5, s1_6, s1_9, s1_10, s1_12, s1_e, hK.f, hO.f, oB_some]
  obtain ⟨h1, e1, a1, r1⟩ := hO.2.1.cp hK.2.1 (Nat.le_refl 8) (by decide)
  have e1 : acp h (o + 1) 0 (k + 1) 0 8 = some h1 := e1
  have k1 : HK h1 k (O.1, K.2) := ⟨hK.1.fr r1 (by omega), a1.to (fun i hi => if_pos hi), hK.2.2.1.fr r1 (by omega), hK.2.2.2.fr r1 (by omega)⟩
  have o1 := hO.fr r1 (by omega)
  simp only [s1_15, s1_16, s1_19, s1_20, s1_21, s1_24, s1_25, s1_27, e1, k1.f, o1.f, oB_some]
  obtain ⟨h2, e2, a2, r2⟩ := o1.2.2.1.cp k1.2.2.1 (Nat.le_refl 8) (by decide)
  have e2 : acp h1 (o + 2) 0 (k + 2) 0 8 = some h2 := e2
  have k2 : HK h2 k (O.1, O.2.1, K.2.2) := ⟨k1.1.fr r2 (by omega), k1.2.1.fr r2 (by omega), a2.to (fun i hi => if_pos hi), k1.2.2.2.fr r2 (by omega)⟩
  have o2 := o1.fr r2 (by omega)
  simp only [s1_30, s1_31, s1_34, s1_35, s1_36, s1_39, s1_40, s1_42, e2, k2.f, o2.f, oB_some]
  obtain ⟨h3, e3, a3, r3⟩ := o2.2.2.2.cp k2.2.2.2 (Nat.le_refl 8) (by decide)
  have e3 : acp h2 (o + 3) 0 (k + 3) 0 8 = some h3 := e3
  have k3 : HK h3 k (O.1, O.2.1, O.2.2.1, K.2.2.2) := ⟨k2.1.fr r3 (by omega), k2.2.1.fr r3 (by omega), k2.2.2.1.fr r3 (by omega), a3.to (fun i hi => if_pos hi)⟩
  have o3 := o2.fr r3 (by omega)
  simp only [s1_45, s1_46, s1_47, s1_50, e3, k3.f, o3.f, oB_some]
  obtain ⟨h4, e4, k4, r4⟩ := k3.sg O.2.2.2
  simp only [s1_53, e4, oB_some]
  exact ⟨trivial, k4, (((r1.up (by omega) (by omega)).tr (r2.up (by omega) (by omega))).tr (r3.up (by omega) (by omega))).tr r4⟩
def kNil : Kn := (fun _ => 0, fun _ => 0, fun _ => 0, 0)
theorem c_forgetAll (hK : HK h k K) : Call 2 [.ref k] h (fun rv h' => rv = none ∧ HK h' k kNil ∧ Fr k (k + 4) h h') := by
  have loop : ∀ d w hh (KK : Kn), w + d = 8 → HK hh k KK → (∀ i, i < w → KK.1 i = 0 ∧ KK.2.1 i = 0 ∧ KK.2.2.1 i = 0) → Fr k (k + 4) h hh → Ev none 2 2 [.ref k, .int (nI w)] [] hh (fun rv h' => rv = none ∧ HK h' k kNil ∧ Fr k (k + 4) h h') := by
    intro d
    induction d with
    | zero =>
      intro w hh KK hw hKK hz hr
      obtain rfl : w = 8 := by omega
      simp only [s2_2, s2_3, s2_5, s2_19, s2_20, s2_21, if_pos (show (8 : Int32) ≤ nI 8 by decide)]
      obtain ⟨h4, e4, k4, r4⟩ := hKK.sg 0
      simp only [s2_24, e4, oB_some]
      exact ⟨trivial, k4.to (fun i hi => hz i hi) rfl, hr.tr r4⟩
    | succ d ih =>
      intro w hh KK hw hKK hz hr
      have hw8 : w < 8 := by omega
      simp only [s2_2, s2_3, s2_5, if_neg (le8 hw8)]
      simp only [s2_8, s2_9, s2_10, hKK.f]
      refine Call.mono (c_forgetPart hKK hw8) ?_
      rintro rv h1 ⟨rfl, k1, r1⟩
      simp only [Option.toList_none, List.nil_append, s2_13, s2_16, nI_s]
      refine ih (w + 1) h1 _ (by omega) k1 (fun i hi => ?_) (hr.tr r1)
      by_cases e : i = w
      · subst e; simp [kForget, upd]
      · have := hz i (by omega)
        simp [kForget, upd, e, this]
  simp only [s2_0, s2_1, s2_e]
  exact loop 8 0 h K rfl hK (fun i hi => by omega) Fr.rf
theorem pick_g {K O : Kn} {w : Nat} {a b : Int32} (hg : gb (K.2.2.2 ||| O.2.2.2) w = true) : pick K O w a b = 0 := if_pos hg
theorem pick_b {K O : Kn} {w : Nat} {a b : Int32} (hg : ¬ gb (K.2.2.2 ||| O.2.2.2) w = true) (hl : K.1 w < O.1 w) : pick K O w a b = b := by unfold pick; rw [if_neg hg, if_pos hl]
theorem pick_a {K O : Kn} {w : Nat} {a b : Int32} (hg : ¬ gb (K.2.2.2 ||| O.2.2.2) w = true) (hl : ¬ K.1 w < O.1 w) : pick K O w a b = a := by unfold pick; rw [if_neg hg, if_neg hl]
theorem c_takeIn {o : Nat} {O : Kn} (hK : HK h k K) (hO : HK h o O) (hd : k + 4 ≤ o ∨ o + 4 ≤ k) : Call 8 [.ref k, .ref o] h (fun rv h' => rv = some (.int (kCt K O)) ∧ HK h' k (kTk K O) ∧ Fr k (k + 4) h h') := by
  have loop : ∀ d w hh (KK : Kn) (v4 : Value), w + d = 8 → HK hh k KK → KK.2.2.2 = K.2.2.2 ||| O.2.2.2 → (∀ i, i < 8 → KK.1 i = (if i < w then (kTk K O).1 i else K.1 i) ∧ KK.2.1 i = (if i < w then (kTk K O).2.1 i else K.2.1 i) ∧ KK.2.2.1 i = (if i < w then (kTk K O).2.2.1 i else K.2.2.1 i)) → Fr k (k + 4) h hh →
      Ev none 8 17 [.ref k, .ref o, .int (cntI (fun w => !decide ((kTk K O).1 w = K.1 w)) w), .int (nI w), v4] [] hh (fun rv h' => rv = some (.int (kCt K O)) ∧ HK h' k (kTk K O) ∧ Fr k (k + 4) h h') := by
    intro d
    induction d with
    | zero =>
      intro w hh KK v4 hw hKK hg hz hr
      obtain rfl : w = 8 := by omega
      simp only [s8_17, s8_18, s8_20, s8_114, s8_115, if_pos (show (8 : Int32) ≤ nI 8 by decide)]
      exact ⟨rfl, hKK.to (fun i hi => by have := hz i hi; rwa [if_pos hi, if_pos hi, if_pos hi] at this) hg, hr⟩
    | succ d ih =>
      intro w hh KK v4 hw hKK hg hz hr
      have hw8 : w < 8 := by omega
      have hO1 := hO.fr hr (by omega)
      have hzw := hz w hw8
      rw [if_neg (Nat.lt_irrefl w), if_neg (Nat.lt_irrefl w), if_neg (Nat.lt_irrefl w)] at hzw
      have fin : ∀ (h1 : AHp) (K1 : Kn), HK h1 k K1 → K1.2.2.2 = KK.2.2.2 → Fr k (k + 4) hh h1 → (∀ i, i < 8 → K1.1 i = (if i = w then (kTk K O).1 w else KK.1 i) ∧ K1.2.1 i = (if i = w then (kTk K O).2.1 w else KK.2.1 i) ∧ K1.2.2.1 i = (if i = w then (kTk K O).2.2.1 w else KK.2.2.1 i)) →
          Ev none 8 94 [.ref k, .ref o, .int (cntI (fun w => !decide ((kTk K O).1 w = K.1 w)) w), .int (nI w), .int (KK.1 w)] [] h1 (fun rv h' => rv = some (.int (kCt K O)) ∧ HK h' k (kTk K O) ∧ Fr k (k + 4) h h') := by
        intro h1 K1 hK1 hg1 hr1 hz1
        simp only [s8_94, s8_95, s8_98, s8_99, s8_100, s8_102, hK1.f, oB_some, hK1.lv hw8]
        have e1 : K1.1 w = (kTk K O).1 w := by have := (hz1 w hw8).1; rwa [if_pos rfl] at this
        rw [e1, hzw.1]
        have nxt := ih (w + 1) h1 K1 (.int (K.1 w)) (by omega) hK1 (hg1.trans hg) (fun i hi => by
          obtain ⟨a1, a2, a3⟩ := hz1 i hi
          obtain ⟨b1, b2, b3⟩ := hz i hi
          rw [a1, a2, a3]
          by_cases e : i = w
          · subst e
            rw [if_pos rfl, if_pos rfl, if_pos rfl, if_pos (Nat.lt_succ_self i), if_pos (Nat.lt_succ_self i), if_pos (Nat.lt_succ_self i)]
            exact ⟨rfl, rfl, rfl⟩
          · rw [if_neg e, if_neg e, if_neg e, b1, b2, b3]
            by_cases e2 : i < w
            · rw [if_pos e2, if_pos e2, if_pos e2, if_pos (by omega), if_pos (by omega), if_pos (by omega)]
              exact ⟨rfl, rfl, rfl⟩
            · rw [if_neg e2, if_neg e2, if_neg e2, if_neg (by omega), if_neg (by omega), if_neg (by omega)]
              exact ⟨rfl, rfl, rfl⟩) (hr.tr hr1)
        by_cases hc : (kTk K O).1 w = K.1 w
        · rw [if_pos hc]
          simp only [s8_105, s8_108, s8_111, nI_s]
          simpa [cntI, hc] using nxt
        · rw [if_neg hc]
          simp only [s8_105, s8_108, s8_111, nI_s]
          simpa [cntI, hc] using nxt
      simp only [s8_17, s8_18, s8_20, if_neg (le8 hw8)]
      simp only [s8_23, s8_24, s8_27, s8_28, s8_29, s8_31, s8_32, s8_33, hKK.f, oB_some, hKK.lv hw8, c_hasGrave hKK, Option.toList_some, List.cons_append, List.nil_append, s8_36]
      by_cases hgr : gb KK.2.2.2 w = true
      · rw [if_pos hgr, if_neg (show ¬ (1 : Int32) = 0 by decide)]
        simp only [s8_39, s8_40, s8_41, hKK.f]
        refine Call.mono (c_forgetPart hKK hw8) ?_
        rintro rv h1 ⟨rfl, k1, r1⟩
        simp only [Option.toList_none, List.nil_append, s8_44]
        rw [hg] at hgr
        refine fin h1 _ k1 rfl r1 (fun i hi => ?_)
        simp only [kForget, upd, kTk, pick_g hgr]
        refine ⟨?_, ?_, ?_⟩ <;> first | trivial | rfl
      · rw [if_neg hgr, if_pos rfl]
        simp only [s8_47, s8_48, s8_51, s8_52, s8_53, s8_55, hO1.f, oB_some, hO1.lv hw8]
        rw [hg] at hgr
        by_cases hl : O.1 w ≤ KK.1 w
        · rw [if_pos hl]
          rw [hzw.1] at hl
          refine fin hh KK hKK rfl Fr.rf (fun i hi => ?_)
          by_cases e : i = w
          · subst e
            simp only [if_pos, kTk, pick_a hgr (Int32.not_lt.mpr hl), hzw]
            exact ⟨trivial, trivial, trivial⟩
          · rw [if_neg e, if_neg e, if_neg e]; exact ⟨rfl, rfl, rfl⟩
        · rw [if_neg hl]
          rw [hzw.1] at hl
          simp only [s8_58, s8_59, s8_62, s8_63, s8_64, s8_67, s8_68, s8_69, hKK.f, hO1.f, oB_some, hO1.lv hw8]
          obtain ⟨h1, e1, k1, r1⟩ := hKK.sv hw8 (O.1 w)
          have o1 := hO1.fr r1 (by omega)
          simp only [s8_70, s8_71, s8_74, s8_75, s8_76, s8_79, s8_80, s8_81, e1, k1.f, o1.f, oB_some, o1.la hw8]
          obtain ⟨h2, e2, k2, r2⟩ := k1.sa hw8 (O.2.1 w)
          have o2 := o1.fr r2 (by omega)
          simp only [s8_82, s8_83, s8_86, s8_87, s8_88, s8_91, s8_92, s8_93, e2, k2.f, o2.f, oB_some, o2.lt hw8]
          obtain ⟨h3, e3, k3, r3⟩ := k2.s3 hw8 (O.2.2.1 w)
          simp only [e3, oB_some]
          refine fin h3 _ k3 rfl ((r1.tr r2).tr r3) (fun i hi => ?_)
          simp only [upd, kTk, pick_b hgr (Int32.not_le.mp hl)]
          refine ⟨?_, ?_, ?_⟩ <;> first | trivial | rfl
  simp only [s8_0, s8_1, s8_2, s8_5, s8_6, s8_9, s8_10, s8_e, hK.f, hO.f, oB_some]
  obtain ⟨h1, e1, k1, r1⟩ := hK.sg (K.2.2.2 ||| O.2.2.2)
  simp only [s8_13, s8_14, s8_15, s8_16, e1, oB_some]
  exact loop 8 0 h1 _ _ rfl k1 rfl (fun i hi => by rw [if_neg (Nat.not_lt_zero i), if_neg (Nat.not_lt_zero i), if_neg (Nat.not_lt_zero i)]; exact ⟨rfl, rfl, rfl⟩) r1
end KN
end
