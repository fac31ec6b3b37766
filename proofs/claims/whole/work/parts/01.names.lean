/-- a private method of a class that the tables say can be made, by its rows of tables_1 -/
def lw_okq (q : MethodName × Nat) : Prop := (q.1.cls ≠ "java/lang/invoke/MethodHandle" ∧ q.1.cls ≠ "java/lang/invoke/VarHandle") ∧ Cond.instantiable q.1.cls q.2 ∈ tables_1 ∧ Cond.privateMethod q.1 ∈ tables_1 ∧ Cond.instanceMethod q.1 ∈ tables_1
theorem lw_p0 : lw_okq (⟨"PartedSums", "freshTrial", "()LPartedSums$State;"⟩, 6) := ⟨⟨by decide +kernel, by decide +kernel⟩, List.mem_of_getElem? (i := 10) (by decide +kernel), List.mem_of_getElem? (i := 197) (by decide +kernel), List.mem_of_getElem? (i := 198) (by decide +kernel)⟩
theorem lw_p1 : lw_okq (⟨"PartedSums", "settle", "(I)I"⟩, 6) := ⟨⟨by decide +kernel, by decide +kernel⟩, List.mem_of_getElem? (i := 10) (by decide +kernel), List.mem_of_getElem? (i := 235) (by decide +kernel), List.mem_of_getElem? (i := 236) (by decide +kernel)⟩
theorem lw_p2 : lw_okq (⟨"PartedSums$State", "insertLetter", "(I)LPartedSums$Letter;"⟩, 11) := ⟨⟨by decide +kernel, by decide +kernel⟩, List.mem_of_getElem? (i := 18) (by decide +kernel), List.mem_of_getElem? (i := 373) (by decide +kernel), List.mem_of_getElem? (i := 374) (by decide +kernel)⟩
theorem lw_p3 : lw_okq (⟨"PartedSums$State", "receive", "(LPartedSums$Letter;)V"⟩, 11) := ⟨⟨by decide +kernel, by decide +kernel⟩, List.mem_of_getElem? (i := 18) (by decide +kernel), List.mem_of_getElem? (i := 385) (by decide +kernel), List.mem_of_getElem? (i := 386) (by decide +kernel)⟩
theorem lw_p4 : lw_okq (⟨"PartedSums$State", "removeLetters", "(I)V"⟩, 11) := ⟨⟨by decide +kernel, by decide +kernel⟩, List.mem_of_getElem? (i := 18) (by decide +kernel), List.mem_of_getElem? (i := 389) (by decide +kernel), List.mem_of_getElem? (i := 390) (by decide +kernel)⟩
theorem lw_p5 : lw_okq (⟨"PartedSums", "tryMerging", "(II)I"⟩, 6) := ⟨⟨by decide +kernel, by decide +kernel⟩, List.mem_of_getElem? (i := 10) (by decide +kernel), List.mem_of_getElem? (i := 448) (by decide +kernel), List.mem_of_getElem? (i := 449) (by decide +kernel)⟩
theorem lw_p6 : lw_okq (⟨"PartedSums$State", "viewBehind", "(I)I"⟩, 11) := ⟨⟨by decide +kernel, by decide +kernel⟩, List.mem_of_getElem? (i := 18) (by decide +kernel), List.mem_of_getElem? (i := 479) (by decide +kernel), List.mem_of_getElem? (i := 480) (by decide +kernel)⟩
theorem lw_p7 : lw_okq (⟨"PartedSums", "partsLackedOfAll", "(I)I"⟩, 6) := ⟨⟨by decide +kernel, by decide +kernel⟩, List.mem_of_getElem? (i := 10) (by decide +kernel), List.mem_of_getElem? (i := 492) (by decide +kernel), List.mem_of_getElem? (i := 493) (by decide +kernel)⟩
theorem lw_p8 : lw_okq (⟨"PartedSums$Script", "readOrder", "(I)Z"⟩, 9) := ⟨⟨by decide +kernel, by decide +kernel⟩, List.mem_of_getElem? (i := 135) (by decide +kernel), List.mem_of_getElem? (i := 528) (by decide +kernel), List.mem_of_getElem? (i := 529) (by decide +kernel)⟩
theorem lw_p9 : lw_okq (⟨"PartedSums$Script", "readNumber", "(I)Z"⟩, 9) := ⟨⟨by decide +kernel, by decide +kernel⟩, List.mem_of_getElem? (i := 135) (by decide +kernel), List.mem_of_getElem? (i := 535) (by decide +kernel), List.mem_of_getElem? (i := 536) (by decide +kernel)⟩
theorem lw_p10 : lw_okq (⟨"PartedSums$Script", "readSign", "(C)Z"⟩, 9) := ⟨⟨by decide +kernel, by decide +kernel⟩, List.mem_of_getElem? (i := 135) (by decide +kernel), List.mem_of_getElem? (i := 540) (by decide +kernel), List.mem_of_getElem? (i := 541) (by decide +kernel)⟩
theorem lw_p11 : lw_okq (⟨"PartedSums$Script", "noteFault", "(III)V"⟩, 9) := ⟨⟨by decide +kernel, by decide +kernel⟩, List.mem_of_getElem? (i := 135) (by decide +kernel), List.mem_of_getElem? (i := 544) (by decide +kernel), List.mem_of_getElem? (i := 545) (by decide +kernel)⟩
theorem lw_p12 : lw_okq (⟨"PartedSums$Script", "doOrder", "(LPartedSums$State;)I"⟩, 9) := ⟨⟨by decide +kernel, by decide +kernel⟩, List.mem_of_getElem? (i := 135) (by decide +kernel), List.mem_of_getElem? (i := 548) (by decide +kernel), List.mem_of_getElem? (i := 549) (by decide +kernel)⟩
theorem lw_p13 : lw_okq (⟨"PartedSumsModel", "isView", "(I)Z"⟩, 15) := ⟨⟨by decide +kernel, by decide +kernel⟩, List.mem_of_getElem? (i := 563) (by decide +kernel), List.mem_of_getElem? (i := 619) (by decide +kernel), List.mem_of_getElem? (i := 620) (by decide +kernel)⟩
theorem lw_p14 : lw_okq (⟨"PartedSumsModel", "changes", "()V"⟩, 15) := ⟨⟨by decide +kernel, by decide +kernel⟩, List.mem_of_getElem? (i := 563) (by decide +kernel), List.mem_of_getElem? (i := 628) (by decide +kernel), List.mem_of_getElem? (i := 629) (by decide +kernel)⟩
theorem lw_p15 : lw_okq (⟨"PartedSumsModel", "isWriter", "(I)Z"⟩, 15) := ⟨⟨by decide +kernel, by decide +kernel⟩, List.mem_of_getElem? (i := 563) (by decide +kernel), List.mem_of_getElem? (i := 642) (by decide +kernel), List.mem_of_getElem? (i := 643) (by decide +kernel)⟩
def lw_privs_1 : List (MethodName × Nat) := [(⟨"PartedSums", "freshTrial", "()LPartedSums$State;"⟩, 6), (⟨"PartedSums", "settle", "(I)I"⟩, 6), (⟨"PartedSums$State", "insertLetter", "(I)LPartedSums$Letter;"⟩, 11), (⟨"PartedSums$State", "receive", "(LPartedSums$Letter;)V"⟩, 11), (⟨"PartedSums$State", "removeLetters", "(I)V"⟩, 11), (⟨"PartedSums", "tryMerging", "(II)I"⟩, 6), (⟨"PartedSums$State", "viewBehind", "(I)I"⟩, 11), (⟨"PartedSums", "partsLackedOfAll", "(I)I"⟩, 6), (⟨"PartedSums$Script", "readOrder", "(I)Z"⟩, 9), (⟨"PartedSums$Script", "readNumber", "(I)Z"⟩, 9), (⟨"PartedSums$Script", "readSign", "(C)Z"⟩, 9), (⟨"PartedSums$Script", "noteFault", "(III)V"⟩, 9), (⟨"PartedSums$Script", "doOrder", "(LPartedSums$State;)I"⟩, 9), (⟨"PartedSumsModel", "isView", "(I)Z"⟩, 15), (⟨"PartedSumsModel", "changes", "()V"⟩, 15), (⟨"PartedSumsModel", "isWriter", "(I)Z"⟩, 15)]
theorem lw_r1 : ∀ q ∈ lw_privs_1, lw_okq q := List.forall_mem_cons.mpr ⟨lw_p0, List.forall_mem_cons.mpr ⟨lw_p1, List.forall_mem_cons.mpr ⟨lw_p2, List.forall_mem_cons.mpr ⟨lw_p3, List.forall_mem_cons.mpr ⟨lw_p4, List.forall_mem_cons.mpr ⟨lw_p5, List.forall_mem_cons.mpr ⟨lw_p6, List.forall_mem_cons.mpr ⟨lw_p7, List.forall_mem_cons.mpr ⟨lw_p8, List.forall_mem_cons.mpr ⟨lw_p9, List.forall_mem_cons.mpr ⟨lw_p10, List.forall_mem_cons.mpr ⟨lw_p11, List.forall_mem_cons.mpr ⟨lw_p12, List.forall_mem_cons.mpr ⟨lw_p13, List.forall_mem_cons.mpr ⟨lw_p14, List.forall_mem_cons.mpr ⟨lw_p15, fun _ h => absurd h List.not_mem_nil⟩⟩⟩⟩⟩⟩⟩⟩⟩⟩⟩⟩⟩⟩⟩⟩
theorem lw_p16 : lw_okq (⟨"PartedSumsModel", "isRetired", "(I)Z"⟩, 15) := ⟨⟨by decide +kernel, by decide +kernel⟩, List.mem_of_getElem? (i := 563) (by decide +kernel), List.mem_of_getElem? (i := 646) (by decide +kernel), List.mem_of_getElem? (i := 647) (by decide +kernel)⟩
theorem lw_p17 : lw_okq (⟨"PartedSumsModel", "ofWriter", "(II)I"⟩, 15) := ⟨⟨by decide +kernel, by decide +kernel⟩, List.mem_of_getElem? (i := 563) (by decide +kernel), List.mem_of_getElem? (i := 650) (by decide +kernel), List.mem_of_getElem? (i := 651) (by decide +kernel)⟩
theorem lw_p18 : lw_okq (⟨"PartedSumsModel", "writes", "(III)I"⟩, 15) := ⟨⟨by decide +kernel, by decide +kernel⟩, List.mem_of_getElem? (i := 563) (by decide +kernel), List.mem_of_getElem? (i := 655) (by decide +kernel), List.mem_of_getElem? (i := 656) (by decide +kernel)⟩
theorem lw_p19 : lw_okq (⟨"PartedSumsModel", "ownPart", "(I)I"⟩, 15) := ⟨⟨by decide +kernel, by decide +kernel⟩, List.mem_of_getElem? (i := 563) (by decide +kernel), List.mem_of_getElem? (i := 659) (by decide +kernel), List.mem_of_getElem? (i := 660) (by decide +kernel)⟩
theorem lw_p20 : lw_okq (⟨"PartedSumsModel", "sum", "(II)I"⟩, 15) := ⟨⟨by decide +kernel, by decide +kernel⟩, List.mem_of_getElem? (i := 563) (by decide +kernel), List.mem_of_getElem? (i := 663) (by decide +kernel), List.mem_of_getElem? (i := 664) (by decide +kernel)⟩
theorem lw_p21 : lw_okq (⟨"PartedSumsModel", "forgets", "(I)V"⟩, 15) := ⟨⟨by decide +kernel, by decide +kernel⟩, List.mem_of_getElem? (i := 563) (by decide +kernel), List.mem_of_getElem? (i := 675) (by decide +kernel), List.mem_of_getElem? (i := 676) (by decide +kernel)⟩
theorem lw_p22 : lw_okq (⟨"PartedSumsModel", "active", "()I"⟩, 15) := ⟨⟨by decide +kernel, by decide +kernel⟩, List.mem_of_getElem? (i := 563) (by decide +kernel), List.mem_of_getElem? (i := 679) (by decide +kernel), List.mem_of_getElem? (i := 680) (by decide +kernel)⟩
theorem lw_p23 : lw_okq (⟨"PartedSumsModel", "lays", "(II)V"⟩, 15) := ⟨⟨by decide +kernel, by decide +kernel⟩, List.mem_of_getElem? (i := 563) (by decide +kernel), List.mem_of_getElem? (i := 691) (by decide +kernel), List.mem_of_getElem? (i := 692) (by decide +kernel)⟩
theorem lw_p24 : lw_okq (⟨"PartedSumsModel", "homers", "(I)I"⟩, 15) := ⟨⟨by decide +kernel, by decide +kernel⟩, List.mem_of_getElem? (i := 563) (by decide +kernel), List.mem_of_getElem? (i := 699) (by decide +kernel), List.mem_of_getElem? (i := 700) (by decide +kernel)⟩
theorem lw_p25 : lw_okq (⟨"PartedSumsModel", "views", "()I"⟩, 15) := ⟨⟨by decide +kernel, by decide +kernel⟩, List.mem_of_getElem? (i := 563) (by decide +kernel), List.mem_of_getElem? (i := 703) (by decide +kernel), List.mem_of_getElem? (i := 704) (by decide +kernel)⟩
theorem lw_p26 : lw_okq (⟨"PartedSumsModel", "takesIn", "(II)I"⟩, 15) := ⟨⟨by decide +kernel, by decide +kernel⟩, List.mem_of_getElem? (i := 563) (by decide +kernel), List.mem_of_getElem? (i := 714) (by decide +kernel), List.mem_of_getElem? (i := 715) (by decide +kernel)⟩
theorem lw_p27 : lw_okq (⟨"PartedSumsModel", "goes", "()I"⟩, 15) := ⟨⟨by decide +kernel, by decide +kernel⟩, List.mem_of_getElem? (i := 563) (by decide +kernel), List.mem_of_getElem? (i := 729) (by decide +kernel), List.mem_of_getElem? (i := 730) (by decide +kernel)⟩
theorem lw_p28 : lw_okq (⟨"PartedSumsModel", "ofLetter", "(II)I"⟩, 15) := ⟨⟨by decide +kernel, by decide +kernel⟩, List.mem_of_getElem? (i := 563) (by decide +kernel), List.mem_of_getElem? (i := 733) (by decide +kernel), List.mem_of_getElem? (i := 734) (by decide +kernel)⟩
theorem lw_p29 : lw_okq (⟨"PartedSumsModel", "comes", "(I)Z"⟩, 15) := ⟨⟨by decide +kernel, by decide +kernel⟩, List.mem_of_getElem? (i := 563) (by decide +kernel), List.mem_of_getElem? (i := 737) (by decide +kernel), List.mem_of_getElem? (i := 738) (by decide +kernel)⟩
theorem lw_p30 : lw_okq (⟨"PartedSumsModel", "isLost", "(I)Z"⟩, 15) := ⟨⟨by decide +kernel, by decide +kernel⟩, List.mem_of_getElem? (i := 563) (by decide +kernel), List.mem_of_getElem? (i := 741) (by decide +kernel), List.mem_of_getElem? (i := 742) (by decide +kernel)⟩
theorem lw_p31 : lw_okq (⟨"PartedSumsModel", "known", "(I)I"⟩, 15) := ⟨⟨by decide +kernel, by decide +kernel⟩, List.mem_of_getElem? (i := 563) (by decide +kernel), List.mem_of_getElem? (i := 749) (by decide +kernel), List.mem_of_getElem? (i := 750) (by decide +kernel)⟩
def lw_privs_2 : List (MethodName × Nat) := [(⟨"PartedSumsModel", "isRetired", "(I)Z"⟩, 15), (⟨"PartedSumsModel", "ofWriter", "(II)I"⟩, 15), (⟨"PartedSumsModel", "writes", "(III)I"⟩, 15), (⟨"PartedSumsModel", "ownPart", "(I)I"⟩, 15), (⟨"PartedSumsModel", "sum", "(II)I"⟩, 15), (⟨"PartedSumsModel", "forgets", "(I)V"⟩, 15), (⟨"PartedSumsModel", "active", "()I"⟩, 15), (⟨"PartedSumsModel", "lays", "(II)V"⟩, 15), (⟨"PartedSumsModel", "homers", "(I)I"⟩, 15), (⟨"PartedSumsModel", "views", "()I"⟩, 15), (⟨"PartedSumsModel", "takesIn", "(II)I"⟩, 15), (⟨"PartedSumsModel", "goes", "()I"⟩, 15), (⟨"PartedSumsModel", "ofLetter", "(II)I"⟩, 15), (⟨"PartedSumsModel", "comes", "(I)Z"⟩, 15), (⟨"PartedSumsModel", "isLost", "(I)Z"⟩, 15), (⟨"PartedSumsModel", "known", "(I)I"⟩, 15)]
theorem lw_r2 : ∀ q ∈ lw_privs_2, lw_okq q := List.forall_mem_cons.mpr ⟨lw_p16, List.forall_mem_cons.mpr ⟨lw_p17, List.forall_mem_cons.mpr ⟨lw_p18, List.forall_mem_cons.mpr ⟨lw_p19, List.forall_mem_cons.mpr ⟨lw_p20, List.forall_mem_cons.mpr ⟨lw_p21, List.forall_mem_cons.mpr ⟨lw_p22, List.forall_mem_cons.mpr ⟨lw_p23, List.forall_mem_cons.mpr ⟨lw_p24, List.forall_mem_cons.mpr ⟨lw_p25, List.forall_mem_cons.mpr ⟨lw_p26, List.forall_mem_cons.mpr ⟨lw_p27, List.forall_mem_cons.mpr ⟨lw_p28, List.forall_mem_cons.mpr ⟨lw_p29, List.forall_mem_cons.mpr ⟨lw_p30, List.forall_mem_cons.mpr ⟨lw_p31, fun _ h => absurd h List.not_mem_nil⟩⟩⟩⟩⟩⟩⟩⟩⟩⟩⟩⟩⟩⟩⟩⟩
theorem lw_p32 : lw_okq (⟨"PartedSumsModel", "alike", "(I)I"⟩, 15) := ⟨⟨by decide +kernel, by decide +kernel⟩, List.mem_of_getElem? (i := 563) (by decide +kernel), List.mem_of_getElem? (i := 753) (by decide +kernel), List.mem_of_getElem? (i := 754) (by decide +kernel)⟩
theorem lw_p33 : lw_okq (⟨"PartedSumsModel", "isSame", "(II)Z"⟩, 15) := ⟨⟨by decide +kernel, by decide +kernel⟩, List.mem_of_getElem? (i := 563) (by decide +kernel), List.mem_of_getElem? (i := 757) (by decide +kernel), List.mem_of_getElem? (i := 758) (by decide +kernel)⟩
theorem lw_p34 : lw_okq (⟨"PartedSumsModel", "viewsWith", "(IZ)I"⟩, 15) := ⟨⟨by decide +kernel, by decide +kernel⟩, List.mem_of_getElem? (i := 563) (by decide +kernel), List.mem_of_getElem? (i := 770) (by decide +kernel), List.mem_of_getElem? (i := 771) (by decide +kernel)⟩
theorem lw_p35 : lw_okq (⟨"PartedSumsModel", "letterAt", "(I)I"⟩, 15) := ⟨⟨by decide +kernel, by decide +kernel⟩, List.mem_of_getElem? (i := 563) (by decide +kernel), List.mem_of_getElem? (i := 778) (by decide +kernel), List.mem_of_getElem? (i := 779) (by decide +kernel)⟩
theorem lw_p36 : lw_okq (⟨"PartedSumsModel", "lacking", "(III)I"⟩, 15) := ⟨⟨by decide +kernel, by decide +kernel⟩, List.mem_of_getElem? (i := 563) (by decide +kernel), List.mem_of_getElem? (i := 786) (by decide +kernel), List.mem_of_getElem? (i := 787) (by decide +kernel)⟩
theorem lw_p37 : lw_okq (⟨"PartedSumsModel", "first", "()I"⟩, 15) := ⟨⟨by decide +kernel, by decide +kernel⟩, List.mem_of_getElem? (i := 563) (by decide +kernel), List.mem_of_getElem? (i := 797) (by decide +kernel), List.mem_of_getElem? (i := 798) (by decide +kernel)⟩
theorem lw_p38 : lw_okq (⟨"PartedSumsModel", "following", "(I)I"⟩, 15) := ⟨⟨by decide +kernel, by decide +kernel⟩, List.mem_of_getElem? (i := 563) (by decide +kernel), List.mem_of_getElem? (i := 809) (by decide +kernel), List.mem_of_getElem? (i := 810) (by decide +kernel)⟩
theorem lw_p39 : lw_okq (⟨"PartedSumsModel", "plays", "()Z"⟩, 15) := ⟨⟨by decide +kernel, by decide +kernel⟩, List.mem_of_getElem? (i := 563) (by decide +kernel), List.mem_of_getElem? (i := 841) (by decide +kernel), List.mem_of_getElem? (i := 842) (by decide +kernel)⟩
theorem lw_p40 : lw_okq (⟨"PartedSumsModel", "reads", "()Z"⟩, 15) := ⟨⟨by decide +kernel, by decide +kernel⟩, List.mem_of_getElem? (i := 563) (by decide +kernel), List.mem_of_getElem? (i := 845) (by decide +kernel), List.mem_of_getElem? (i := 846) (by decide +kernel)⟩
theorem lw_p41 : lw_okq (⟨"PartedSumsModel", "isAt", "(II)Z"⟩, 15) := ⟨⟨by decide +kernel, by decide +kernel⟩, List.mem_of_getElem? (i := 563) (by decide +kernel), List.mem_of_getElem? (i := 849) (by decide +kernel), List.mem_of_getElem? (i := 850) (by decide +kernel)⟩
theorem lw_p42 : lw_okq (⟨"PartedSumsModel", "number", "(I)Z"⟩, 15) := ⟨⟨by decide +kernel, by decide +kernel⟩, List.mem_of_getElem? (i := 563) (by decide +kernel), List.mem_of_getElem? (i := 856) (by decide +kernel), List.mem_of_getElem? (i := 857) (by decide +kernel)⟩
theorem lw_p43 : lw_okq (⟨"PartedSumsModel", "sign", "(I)Z"⟩, 15) := ⟨⟨by decide +kernel, by decide +kernel⟩, List.mem_of_getElem? (i := 563) (by decide +kernel), List.mem_of_getElem? (i := 860) (by decide +kernel), List.mem_of_getElem? (i := 861) (by decide +kernel)⟩
theorem lw_p44 : lw_okq (⟨"PartedSumsModel", "calls", "()I"⟩, 15) := ⟨⟨by decide +kernel, by decide +kernel⟩, List.mem_of_getElem? (i := 563) (by decide +kernel), List.mem_of_getElem? (i := 864) (by decide +kernel), List.mem_of_getElem? (i := 865) (by decide +kernel)⟩
def lw_privs_3 : List (MethodName × Nat) := [(⟨"PartedSumsModel", "alike", "(I)I"⟩, 15), (⟨"PartedSumsModel", "isSame", "(II)Z"⟩, 15), (⟨"PartedSumsModel", "viewsWith", "(IZ)I"⟩, 15), (⟨"PartedSumsModel", "letterAt", "(I)I"⟩, 15), (⟨"PartedSumsModel", "lacking", "(III)I"⟩, 15), (⟨"PartedSumsModel", "first", "()I"⟩, 15), (⟨"PartedSumsModel", "following", "(I)I"⟩, 15), (⟨"PartedSumsModel", "plays", "()Z"⟩, 15), (⟨"PartedSumsModel", "reads", "()Z"⟩, 15), (⟨"PartedSumsModel", "isAt", "(II)Z"⟩, 15), (⟨"PartedSumsModel", "number", "(I)Z"⟩, 15), (⟨"PartedSumsModel", "sign", "(I)Z"⟩, 15), (⟨"PartedSumsModel", "calls", "()I"⟩, 15)]
theorem lw_r3 : ∀ q ∈ lw_privs_3, lw_okq q := List.forall_mem_cons.mpr ⟨lw_p32, List.forall_mem_cons.mpr ⟨lw_p33, List.forall_mem_cons.mpr ⟨lw_p34, List.forall_mem_cons.mpr ⟨lw_p35, List.forall_mem_cons.mpr ⟨lw_p36, List.forall_mem_cons.mpr ⟨lw_p37, List.forall_mem_cons.mpr ⟨lw_p38, List.forall_mem_cons.mpr ⟨lw_p39, List.forall_mem_cons.mpr ⟨lw_p40, List.forall_mem_cons.mpr ⟨lw_p41, List.forall_mem_cons.mpr ⟨lw_p42, List.forall_mem_cons.mpr ⟨lw_p43, List.forall_mem_cons.mpr ⟨lw_p44, fun _ h => absurd h List.not_mem_nil⟩⟩⟩⟩⟩⟩⟩⟩⟩⟩⟩⟩⟩
def lw_privs : List (MethodName × Nat) := lw_privs_1 ++ (lw_privs_2 ++ (lw_privs_3))
def lw_tbl : List Cond := k2_sels lw_privs ++ tables_1
theorem lw_privs_ok : ∀ q ∈ lw_privs, lw_okq q := by
  show ∀ q ∈ lw_privs_1 ++ (lw_privs_2 ++ (lw_privs_3)), lw_okq q
  exact List.forall_mem_append.mpr ⟨lw_r1, List.forall_mem_append.mpr ⟨lw_r2, lw_r3⟩⟩
def RX0 : String := "PartedSums$Knowledge"
def TX0 : u_T := fun k => match k with
  | 0 => ("PartedSums$Knowledge", "versions", "[I", true)
  | 1 => ("PartedSums$Knowledge", "added", "[I", true)
  | 2 => ("PartedSums$Knowledge", "taken", "[I", true)
  | _ => ("PartedSums$Knowledge", "graves", "I", false)
def tyX0 : Nat → FieldType := fun k => match k with
  | 0 => .array .int
  | 1 => .array .int
  | 2 => .array .int
  | _ => .int
abbrev wsX00 : List Cond := u_ws RX0 TX0 4
theorem nmX0 : ∀ a, a < 4 → ∀ b, b < 4 → a ≠ b → (TX0 a).2.1 ≠ (TX0 b).2.1 := by decide +kernel
theorem tyX0_ok : ∀ k, k < 4 → parseFieldDescriptor (TX0 k).2.2.1 = some (tyX0 k) := by decide +kernel
abbrev cX0_init : ByteArray := prog_2_method_1_code
def yX0_init : MethodName := ⟨RX0, "<init>", "()V"⟩
abbrev cX0_copyFrom : ByteArray := prog_2_method_2_code
def yX0_copyFrom : MethodName := ⟨RX0, "copyFrom", "(LPartedSums$Knowledge;)V"⟩
abbrev cX0_forgetAll : ByteArray := prog_2_method_3_code
def yX0_forgetAll : MethodName := ⟨RX0, "forgetAll", "()V"⟩
abbrev cX0_forgetPart : ByteArray := prog_2_method_4_code
def yX0_forgetPart : MethodName := ⟨RX0, "forgetPart", "(I)V"⟩
abbrev cX0_knows : ByteArray := prog_2_method_5_code
def yX0_knows : MethodName := ⟨RX0, "knows", "(I)Z"⟩
abbrev cX0_hasGrave : ByteArray := prog_2_method_6_code
def yX0_hasGrave : MethodName := ⟨RX0, "hasGrave", "(I)Z"⟩
abbrev cX0_raise : ByteArray := prog_2_method_7_code
def yX0_raise : MethodName := ⟨RX0, "raise", "(III)V"⟩
abbrev cX0_bequeath : ByteArray := prog_2_method_8_code
def yX0_bequeath : MethodName := ⟨RX0, "bequeath", "(II)V"⟩
abbrev cX0_takeIn : ByteArray := prog_2_method_9_code
def yX0_takeIn : MethodName := ⟨RX0, "takeIn", "(LPartedSums$Knowledge;)I"⟩
abbrev cX0_knowsTheSameAs : ByteArray := prog_2_method_10_code
def yX0_knowsTheSameAs : MethodName := ⟨RX0, "knowsTheSameAs", "(LPartedSums$Knowledge;)Z"⟩
abbrev cX0_allAdded : ByteArray := prog_2_method_11_code
def yX0_allAdded : MethodName := ⟨RX0, "allAdded", "()I"⟩
abbrev cX0_allTaken : ByteArray := prog_2_method_12_code
def yX0_allTaken : MethodName := ⟨RX0, "allTaken", "()I"⟩
abbrev cX0_sum : ByteArray := prog_2_method_13_code
def yX0_sum : MethodName := ⟨RX0, "sum", "()I"⟩
abbrev cX0_knownWriters : ByteArray := prog_2_method_14_code
def yX0_knownWriters : MethodName := ⟨RX0, "knownWriters", "()I"⟩
def RX1 : String := "PartedSums$Letter"
def TX1 : u_T := fun k => match k with
  | 0 => ("PartedSums$Letter", "from", "I", false)
  | 1 => ("PartedSums$Letter", "to", "I", false)
  | 2 => ("PartedSums$Letter", "arrival", "I", false)
  | 3 => ("PartedSums$Letter", "lost", "Z", false)
  | _ => ("PartedSums$Letter", "told", "LPartedSums$Knowledge;", true)
def tyX1 : Nat → FieldType := fun k => match k with
  | 0 => .int
  | 1 => .int
  | 2 => .int
  | 3 => .boolean
  | _ => .object "PartedSums$Knowledge"
abbrev wsX10 : List Cond := u_ws RX1 TX1 5
theorem nmX1 : ∀ a, a < 5 → ∀ b, b < 5 → a ≠ b → (TX1 a).2.1 ≠ (TX1 b).2.1 := by decide +kernel
theorem tyX1_ok : ∀ k, k < 5 → parseFieldDescriptor (TX1 k).2.2.1 = some (tyX1 k) := by decide +kernel
abbrev cX1_init : ByteArray := prog_3_method_1_code
def yX1_init : MethodName := ⟨RX1, "<init>", "()V"⟩
abbrev cX1_copyFrom : ByteArray := prog_3_method_2_code
def yX1_copyFrom : MethodName := ⟨RX1, "copyFrom", "(LPartedSums$Letter;)V"⟩
def RX2 : String := "PartedSums$Script"
def TX2 : u_T := fun k => match k with
  | 0 => ("PartedSums$Script", "characters", "[I", true)
  | 1 => ("PartedSums$Script", "length", "I", false)
  | 2 => ("PartedSums$Script", "orders", "I", false)
  | 3 => ("PartedSums$Script", "faultAt", "I", false)
  | 4 => ("PartedSums$Script", "faultReason", "I", false)
  | 5 => ("PartedSums$Script", "faultCause", "I", false)
  | 6 => ("PartedSums$Script", "kind", "I", false)
  | 7 => ("PartedSums$Script", "numbers", "[I", true)
  | _ => ("PartedSums$Script", "at", "I", false)
def tyX2 : Nat → FieldType := fun k => match k with
  | 0 => .array .int
  | 1 => .int
  | 2 => .int
  | 3 => .int
  | 4 => .int
  | 5 => .int
  | 6 => .int
  | 7 => .array .int
  | _ => .int
abbrev wsX20 : List Cond := u_ws RX2 TX2 9
theorem nmX2 : ∀ a, a < 9 → ∀ b, b < 9 → a ≠ b → (TX2 a).2.1 ≠ (TX2 b).2.1 := by decide +kernel
theorem tyX2_ok : ∀ k, k < 9 → parseFieldDescriptor (TX2 k).2.2.1 = some (tyX2 k) := by decide +kernel
abbrev cX2_init : ByteArray := prog_4_method_1_code
def yX2_init : MethodName := ⟨RX2, "<init>", "()V"⟩
abbrev cX2_append : ByteArray := prog_4_method_2_code
def yX2_append : MethodName := ⟨RX2, "append", "(I)I"⟩
abbrev cX2_runIn : ByteArray := prog_4_method_3_code
def yX2_runIn : MethodName := ⟨RX2, "runIn", "(LPartedSums$State;)V"⟩
abbrev cX2_noteFault : ByteArray := prog_4_method_4_code
def yX2_noteFault : MethodName := ⟨RX2, "noteFault", "(III)V"⟩
abbrev cX2_readOrder : ByteArray := prog_4_method_5_code
def yX2_readOrder : MethodName := ⟨RX2, "readOrder", "(I)Z"⟩
abbrev cX2_numbersOf : ByteArray := prog_4_method_6_code
def yX2_numbersOf : MethodName := ⟨RX2, "numbersOf", "(I)I"⟩
abbrev cX2_readNumber : ByteArray := prog_4_method_7_code
def yX2_readNumber : MethodName := ⟨RX2, "readNumber", "(I)Z"⟩
abbrev cX2_readSign : ByteArray := prog_4_method_8_code
def yX2_readSign : MethodName := ⟨RX2, "readSign", "(C)Z"⟩
abbrev cX2_doOrder : ByteArray := prog_4_method_9_code
def yX2_doOrder : MethodName := ⟨RX2, "doOrder", "(LPartedSums$State;)I"⟩
def RX3 : String := "PartedSums$State"
def TX3 : u_T := fun k => match k with
  | 0 => ("PartedSums$State", "views", "[LPartedSums$Knowledge;", true)
  | 1 => ("PartedSums$State", "viewSet", "I", false)
  | 2 => ("PartedSums$State", "homes", "[I", true)
  | 3 => ("PartedSums$State", "heirs", "[I", true)
  | 4 => ("PartedSums$State", "writers", "I", false)
  | 5 => ("PartedSums$State", "letters", "[LPartedSums$Letter;", true)
  | 6 => ("PartedSums$State", "letterCount", "I", false)
  | 7 => ("PartedSums$State", "time", "I", false)
  | 8 => ("PartedSums$State", "lettersTakenIn", "I", false)
  | 9 => ("PartedSums$State", "lettersLost", "I", false)
  | _ => ("PartedSums$State", "partsMerged", "I", false)
def tyX3 : Nat → FieldType := fun k => match k with
  | 0 => .array (.object "PartedSums$Knowledge")
  | 1 => .int
  | 2 => .array .int
  | 3 => .array .int
  | 4 => .int
  | 5 => .array (.object "PartedSums$Letter")
  | 6 => .int
  | 7 => .int
  | 8 => .int
  | 9 => .int
  | _ => .int
abbrev wsX30 : List Cond := u_ws RX3 TX3 11
theorem nmX3 : ∀ a, a < 11 → ∀ b, b < 11 → a ≠ b → (TX3 a).2.1 ≠ (TX3 b).2.1 := by decide +kernel
theorem tyX3_ok : ∀ k, k < 11 → parseFieldDescriptor (TX3 k).2.2.1 = some (tyX3 k) := by decide +kernel
abbrev cX3_init : ByteArray := prog_5_method_1_code
def yX3_init : MethodName := ⟨RX3, "<init>", "()V"⟩
abbrev cX3_copyFrom : ByteArray := prog_5_method_2_code
def yX3_copyFrom : MethodName := ⟨RX3, "copyFrom", "(LPartedSums$State;)V"⟩
abbrev cX3_hasView : ByteArray := prog_5_method_3_code
def yX3_hasView : MethodName := ⟨RX3, "hasView", "(I)Z"⟩
abbrev cX3_hasWriter : ByteArray := prog_5_method_4_code
def yX3_hasWriter : MethodName := ⟨RX3, "hasWriter", "(I)Z"⟩
abbrev cX3_hasRetired : ByteArray := prog_5_method_5_code
def yX3_hasRetired : MethodName := ⟨RX3, "hasRetired", "(I)Z"⟩
abbrev cX3_countViews : ByteArray := prog_5_method_6_code
def yX3_countViews : MethodName := ⟨RX3, "countViews", "()I"⟩
abbrev cX3_countActiveWriters : ByteArray := prog_5_method_7_code
def yX3_countActiveWriters : MethodName := ⟨RX3, "countActiveWriters", "()I"⟩
abbrev cX3_homeOf : ByteArray := prog_5_method_8_code
def yX3_homeOf : MethodName := ⟨RX3, "homeOf", "(I)LPartedSums$Knowledge;"⟩
abbrev cX3_homeVersion : ByteArray := prog_5_method_9_code
def yX3_homeVersion : MethodName := ⟨RX3, "homeVersion", "(I)I"⟩
abbrev cX3_writersAtHome : ByteArray := prog_5_method_10_code
def yX3_writersAtHome : MethodName := ⟨RX3, "writersAtHome", "(I)I"⟩
abbrev cX3_viewsThatKnowTheSame : ByteArray := prog_5_method_11_code
def yX3_viewsThatKnowTheSame : MethodName := ⟨RX3, "viewsThatKnowTheSame", "(I)I"⟩
abbrev cX3_viewsUpToDate : ByteArray := prog_5_method_12_code
def yX3_viewsUpToDate : MethodName := ⟨RX3, "viewsUpToDate", "(I)I"⟩
abbrev cX3_viewsWithGrave : ByteArray := prog_5_method_13_code
def yX3_viewsWithGrave : MethodName := ⟨RX3, "viewsWithGrave", "(I)I"⟩
abbrev cX3_leastKnown : ByteArray := prog_5_method_14_code
def yX3_leastKnown : MethodName := ⟨RX3, "leastKnown", "(I)I"⟩
abbrev cX3_bringWriter : ByteArray := prog_5_method_15_code
def yX3_bringWriter : MethodName := ⟨RX3, "bringWriter", "(I)I"⟩
abbrev cX3_addAmount : ByteArray := prog_5_method_16_code
def yX3_addAmount : MethodName := ⟨RX3, "addAmount", "(II)I"⟩
abbrev cX3_takeAmount : ByteArray := prog_5_method_17_code
def yX3_takeAmount : MethodName := ⟨RX3, "takeAmount", "(II)I"⟩
abbrev cX3_retireWriter : ByteArray := prog_5_method_18_code
def yX3_retireWriter : MethodName := ⟨RX3, "retireWriter", "(II)I"⟩
abbrev cX3_moveWriter : ByteArray := prog_5_method_19_code
def yX3_moveWriter : MethodName := ⟨RX3, "moveWriter", "(II)I"⟩
abbrev cX3_copyView : ByteArray := prog_5_method_20_code
def yX3_copyView : MethodName := ⟨RX3, "copyView", "(I)I"⟩
abbrev cX3_dropView : ByteArray := prog_5_method_21_code
def yX3_dropView : MethodName := ⟨RX3, "dropView", "(I)I"⟩
abbrev cX3_mergeViews : ByteArray := prog_5_method_22_code
def yX3_mergeViews : MethodName := ⟨RX3, "mergeViews", "(II)I"⟩
abbrev cX3_postLetter : ByteArray := prog_5_method_23_code
def yX3_postLetter : MethodName := ⟨RX3, "postLetter", "(III)I"⟩
abbrev cX3_insertLetter : ByteArray := prog_5_method_24_code
def yX3_insertLetter : MethodName := ⟨RX3, "insertLetter", "(I)LPartedSums$Letter;"⟩
abbrev cX3_passTicks : ByteArray := prog_5_method_25_code
def yX3_passTicks : MethodName := ⟨RX3, "passTicks", "(I)I"⟩
abbrev cX3_receive : ByteArray := prog_5_method_26_code
def yX3_receive : MethodName := ⟨RX3, "receive", "(LPartedSums$Letter;)V"⟩
abbrev cX3_removeLetters : ByteArray := prog_5_method_27_code
def yX3_removeLetters : MethodName := ⟨RX3, "removeLetters", "(I)V"⟩
abbrev cX3_mergeUntilAllAgree : ByteArray := prog_5_method_28_code
def yX3_mergeUntilAllAgree : MethodName := ⟨RX3, "mergeUntilAllAgree", "()I"⟩
abbrev cX3_viewBehind : ByteArray := prog_5_method_29_code
def yX3_viewBehind : MethodName := ⟨RX3, "viewBehind", "(I)I"⟩
def RX4 : String := "PartedSums"
def TX4 : u_T := fun k => match k with
  | 0 => ("PartedSums", "now", "LPartedSums$State;", false)
  | 1 => ("PartedSums", "trial", "LPartedSums$State;", false)
  | 2 => ("PartedSums", "past", "[LPartedSums$State;", true)
  | 3 => ("PartedSums", "pastStates", "I", false)
  | 4 => ("PartedSums", "scratch", "LPartedSums$Knowledge;", true)
  | _ => ("PartedSums", "script", "LPartedSums$Script;", true)
def tyX4 : Nat → FieldType := fun k => match k with
  | 0 => .object "PartedSums$State"
  | 1 => .object "PartedSums$State"
  | 2 => .array (.object "PartedSums$State")
  | 3 => .int
  | 4 => .object "PartedSums$Knowledge"
  | _ => .object "PartedSums$Script"
abbrev wsX40 : List Cond := u_ws RX4 TX4 6
theorem nmX4 : ∀ a, a < 6 → ∀ b, b < 6 → a ≠ b → (TX4 a).2.1 ≠ (TX4 b).2.1 := by decide +kernel
theorem tyX4_ok : ∀ k, k < 6 → parseFieldDescriptor (TX4 k).2.2.1 = some (tyX4 k) := by decide +kernel
abbrev cX4_init : ByteArray := prog_1_method_1_code
def yX4_init : MethodName := ⟨RX4, "<init>", "()V"⟩
abbrev cX4_writer : ByteArray := prog_1_method_2_code
def yX4_writer : MethodName := ⟨RX4, "writer", "(I)I"⟩
abbrev cX4_add : ByteArray := prog_1_method_3_code
def yX4_add : MethodName := ⟨RX4, "add", "(II)I"⟩
abbrev cX4_take : ByteArray := prog_1_method_4_code
def yX4_take : MethodName := ⟨RX4, "take", "(II)I"⟩
abbrev cX4_retire : ByteArray := prog_1_method_5_code
def yX4_retire : MethodName := ⟨RX4, "retire", "(II)I"⟩
abbrev cX4_move : ByteArray := prog_1_method_6_code
def yX4_move : MethodName := ⟨RX4, "move", "(II)I"⟩
abbrev cX4_view : ByteArray := prog_1_method_7_code
def yX4_view : MethodName := ⟨RX4, "view", "(I)I"⟩
abbrev cX4_drop : ByteArray := prog_1_method_8_code
def yX4_drop : MethodName := ⟨RX4, "drop", "(I)I"⟩
abbrev cX4_merge : ByteArray := prog_1_method_9_code
def yX4_merge : MethodName := ⟨RX4, "merge", "(II)I"⟩
abbrev cX4_post : ByteArray := prog_1_method_10_code
def yX4_post : MethodName := ⟨RX4, "post", "(III)I"⟩
abbrev cX4_tick : ByteArray := prog_1_method_11_code
def yX4_tick : MethodName := ⟨RX4, "tick", "(I)I"⟩
abbrev cX4_viewOf : ByteArray := prog_1_method_12_code
def yX4_viewOf : MethodName := ⟨RX4, "viewOf", "(II)I"⟩
abbrev cX4_partOf : ByteArray := prog_1_method_13_code
def yX4_partOf : MethodName := ⟨RX4, "partOf", "(III)I"⟩
abbrev cX4_writerOf : ByteArray := prog_1_method_14_code
def yX4_writerOf : MethodName := ⟨RX4, "writerOf", "(II)I"⟩
abbrev cX4_letterOf : ByteArray := prog_1_method_15_code
def yX4_letterOf : MethodName := ⟨RX4, "letterOf", "(II)I"⟩
abbrev cX4_lacks : ByteArray := prog_1_method_16_code
def yX4_lacks : MethodName := ⟨RX4, "lacks", "(III)I"⟩
abbrev cX4_whole : ByteArray := prog_1_method_17_code
def yX4_whole : MethodName := ⟨RX4, "whole", "()I"⟩
abbrev cX4_seen : ByteArray := prog_1_method_18_code
def yX4_seen : MethodName := ⟨RX4, "seen", "()I"⟩
abbrev cX4_rounds : ByteArray := prog_1_method_19_code
def yX4_rounds : MethodName := ⟨RX4, "rounds", "()I"⟩
abbrev cX4_would : ByteArray := prog_1_method_20_code
def yX4_would : MethodName := ⟨RX4, "would", "(II)I"⟩
abbrev cX4_latest : ByteArray := prog_1_method_21_code
def yX4_latest : MethodName := ⟨RX4, "latest", "(I)I"⟩
abbrev cX4_count : ByteArray := prog_1_method_22_code
def yX4_count : MethodName := ⟨RX4, "count", "(I)I"⟩
abbrev cX4_undo : ByteArray := prog_1_method_23_code
def yX4_undo : MethodName := ⟨RX4, "undo", "()I"⟩
abbrev cX4_type : ByteArray := prog_1_method_24_code
def yX4_type : MethodName := ⟨RX4, "type", "(I)I"⟩
abbrev cX4_clearText : ByteArray := prog_1_method_25_code
def yX4_clearText : MethodName := ⟨RX4, "clearText", "()I"⟩
abbrev cX4_fault : ByteArray := prog_1_method_26_code
def yX4_fault : MethodName := ⟨RX4, "fault", "(I)I"⟩
abbrev cX4_play : ByteArray := prog_1_method_27_code
def yX4_play : MethodName := ⟨RX4, "play", "()I"⟩
abbrev cX4_freshTrial : ByteArray := prog_1_method_28_code
def yX4_freshTrial : MethodName := ⟨RX4, "freshTrial", "()LPartedSums$State;"⟩
abbrev cX4_settle : ByteArray := prog_1_method_29_code
def yX4_settle : MethodName := ⟨RX4, "settle", "(I)I"⟩
abbrev cX4_tryMerging : ByteArray := prog_1_method_30_code
def yX4_tryMerging : MethodName := ⟨RX4, "tryMerging", "(II)I"⟩
abbrev cX4_partsLackedOfAll : ByteArray := prog_1_method_31_code
def yX4_partsLackedOfAll : MethodName := ⟨RX4, "partsLackedOfAll", "(I)I"⟩
abbrev cX4_isWithin : ByteArray := prog_1_method_32_code
def yX4_isWithin : MethodName := ⟨RX4, "isWithin", "(III)Z"⟩
abbrev cX4_isError : ByteArray := prog_1_method_33_code
def yX4_isError : MethodName := ⟨RX4, "isError", "(I)Z"⟩
def RX5 : String := "PartedSumsModel"
def TX5 : u_T := fun k => match k with
  | 0 => ("PartedSumsModel", "s", "[I", true)
  | 1 => ("PartedSumsModel", "past", "[I", true)
  | 2 => ("PartedSumsModel", "held", "[I", true)
  | 3 => ("PartedSumsModel", "tried", "[I", true)
  | 4 => ("PartedSumsModel", "pasts", "I", false)
  | 5 => ("PartedSumsModel", "runs", "Z", false)
  | 6 => ("PartedSumsModel", "text", "[I", true)
  | 7 => ("PartedSumsModel", "typed", "I", false)
  | 8 => ("PartedSumsModel", "spot", "I", false)
  | 9 => ("PartedSumsModel", "from", "I", false)
  | 10 => ("PartedSumsModel", "reason", "I", false)
  | 11 => ("PartedSumsModel", "cause", "I", false)
  | 12 => ("PartedSumsModel", "orders", "I", false)
  | 13 => ("PartedSumsModel", "order", "I", false)
  | _ => ("PartedSumsModel", "told", "[I", true)
def tyX5 : Nat → FieldType := fun k => match k with
  | 0 => .array .int
  | 1 => .array .int
  | 2 => .array .int
  | 3 => .array .int
  | 4 => .int
  | 5 => .boolean
  | 6 => .array .int
  | 7 => .int
  | 8 => .int
  | 9 => .int
  | 10 => .int
  | 11 => .int
  | 12 => .int
  | 13 => .int
  | _ => .array .int
abbrev wsX50 : List Cond := u_ws RX5 TX5 15
theorem nmX5 : ∀ a, a < 15 → ∀ b, b < 15 → a ≠ b → (TX5 a).2.1 ≠ (TX5 b).2.1 := by decide +kernel
theorem tyX5_ok : ∀ k, k < 15 → parseFieldDescriptor (TX5 k).2.2.1 = some (tyX5 k) := by decide +kernel
abbrev cX5_init : ByteArray := prog_7_method_1_code
def yX5_init : MethodName := ⟨RX5, "<init>", "()V"⟩
abbrev cX5_in : ByteArray := prog_7_method_3_code
def yX5_in : MethodName := ⟨RX5, "in", "(III)Z"⟩
abbrev cX5_copies : ByteArray := prog_7_method_4_code
def yX5_copies : MethodName := ⟨RX5, "copies", "([I[I)V"⟩
abbrev cX5_changes : ByteArray := prog_7_method_5_code
def yX5_changes : MethodName := ⟨RX5, "changes", "()V"⟩
abbrev cX5_knows : ByteArray := prog_7_method_6_code
def yX5_knows : MethodName := ⟨RX5, "knows", "(I)I"⟩
abbrev cX5_knew : ByteArray := prog_7_method_7_code
def yX5_knew : MethodName := ⟨RX5, "knew", "(I)I"⟩
abbrev cX5_part : ByteArray := prog_7_method_8_code
def yX5_part : MethodName := ⟨RX5, "part", "(II)I"⟩
abbrev cX5_isView : ByteArray := prog_7_method_9_code
def yX5_isView : MethodName := ⟨RX5, "isView", "(I)Z"⟩
abbrev cX5_isWriter : ByteArray := prog_7_method_10_code
def yX5_isWriter : MethodName := ⟨RX5, "isWriter", "(I)Z"⟩
abbrev cX5_ofWriter : ByteArray := prog_7_method_11_code
def yX5_ofWriter : MethodName := ⟨RX5, "ofWriter", "(II)I"⟩
abbrev cX5_isRetired : ByteArray := prog_7_method_12_code
def yX5_isRetired : MethodName := ⟨RX5, "isRetired", "(I)Z"⟩
abbrev cX5_sum : ByteArray := prog_7_method_13_code
def yX5_sum : MethodName := ⟨RX5, "sum", "(II)I"⟩
abbrev cX5_ones : ByteArray := prog_7_method_14_code
def yX5_ones : MethodName := ⟨RX5, "ones", "(I)I"⟩
abbrev cX5_views : ByteArray := prog_7_method_15_code
def yX5_views : MethodName := ⟨RX5, "views", "()I"⟩
abbrev cX5_active : ByteArray := prog_7_method_16_code
def yX5_active : MethodName := ⟨RX5, "active", "()I"⟩
abbrev cX5_takesIn : ByteArray := prog_7_method_17_code
def yX5_takesIn : MethodName := ⟨RX5, "takesIn", "(II)I"⟩
abbrev cX5_forgets : ByteArray := prog_7_method_18_code
def yX5_forgets : MethodName := ⟨RX5, "forgets", "(I)V"⟩
abbrev cX5_isSame : ByteArray := prog_7_method_19_code
def yX5_isSame : MethodName := ⟨RX5, "isSame", "(II)Z"⟩
abbrev cX5_writer : ByteArray := prog_7_method_20_code
def yX5_writer : MethodName := ⟨RX5, "writer", "(I)I"⟩
abbrev cX5_ownPart : ByteArray := prog_7_method_21_code
def yX5_ownPart : MethodName := ⟨RX5, "ownPart", "(I)I"⟩
abbrev cX5_writes : ByteArray := prog_7_method_22_code
def yX5_writes : MethodName := ⟨RX5, "writes", "(III)I"⟩
abbrev cX5_add : ByteArray := prog_7_method_23_code
def yX5_add : MethodName := ⟨RX5, "add", "(II)I"⟩
abbrev cX5_take : ByteArray := prog_7_method_24_code
def yX5_take : MethodName := ⟨RX5, "take", "(II)I"⟩
abbrev cX5_retire : ByteArray := prog_7_method_25_code
def yX5_retire : MethodName := ⟨RX5, "retire", "(II)I"⟩
abbrev cX5_move : ByteArray := prog_7_method_26_code
def yX5_move : MethodName := ⟨RX5, "move", "(II)I"⟩
abbrev cX5_lays : ByteArray := prog_7_method_27_code
def yX5_lays : MethodName := ⟨RX5, "lays", "(II)V"⟩
abbrev cX5_view : ByteArray := prog_7_method_28_code
def yX5_view : MethodName := ⟨RX5, "view", "(I)I"⟩
abbrev cX5_homers : ByteArray := prog_7_method_29_code
def yX5_homers : MethodName := ⟨RX5, "homers", "(I)I"⟩
abbrev cX5_drop : ByteArray := prog_7_method_30_code
def yX5_drop : MethodName := ⟨RX5, "drop", "(I)I"⟩
abbrev cX5_merge : ByteArray := prog_7_method_31_code
def yX5_merge : MethodName := ⟨RX5, "merge", "(II)I"⟩
abbrev cX5_ofLetter : ByteArray := prog_7_method_32_code
def yX5_ofLetter : MethodName := ⟨RX5, "ofLetter", "(II)I"⟩
abbrev cX5_post : ByteArray := prog_7_method_33_code
def yX5_post : MethodName := ⟨RX5, "post", "(III)I"⟩
abbrev cX5_isLost : ByteArray := prog_7_method_34_code
def yX5_isLost : MethodName := ⟨RX5, "isLost", "(I)Z"⟩
abbrev cX5_comes : ByteArray := prog_7_method_35_code
def yX5_comes : MethodName := ⟨RX5, "comes", "(I)Z"⟩
abbrev cX5_goes : ByteArray := prog_7_method_36_code
def yX5_goes : MethodName := ⟨RX5, "goes", "()I"⟩
abbrev cX5_tick : ByteArray := prog_7_method_37_code
def yX5_tick : MethodName := ⟨RX5, "tick", "(I)I"⟩
abbrev cX5_known : ByteArray := prog_7_method_38_code
def yX5_known : MethodName := ⟨RX5, "known", "(I)I"⟩
abbrev cX5_alike : ByteArray := prog_7_method_39_code
def yX5_alike : MethodName := ⟨RX5, "alike", "(I)I"⟩
abbrev cX5_viewOf : ByteArray := prog_7_method_40_code
def yX5_viewOf : MethodName := ⟨RX5, "viewOf", "(II)I"⟩
abbrev cX5_partOf : ByteArray := prog_7_method_41_code
def yX5_partOf : MethodName := ⟨RX5, "partOf", "(III)I"⟩
abbrev cX5_viewsWith : ByteArray := prog_7_method_42_code
def yX5_viewsWith : MethodName := ⟨RX5, "viewsWith", "(IZ)I"⟩
abbrev cX5_writerOf : ByteArray := prog_7_method_43_code
def yX5_writerOf : MethodName := ⟨RX5, "writerOf", "(II)I"⟩
abbrev cX5_letterAt : ByteArray := prog_7_method_44_code
def yX5_letterAt : MethodName := ⟨RX5, "letterAt", "(I)I"⟩
abbrev cX5_letterOf : ByteArray := prog_7_method_45_code
def yX5_letterOf : MethodName := ⟨RX5, "letterOf", "(II)I"⟩
abbrev cX5_lacking : ByteArray := prog_7_method_46_code
def yX5_lacking : MethodName := ⟨RX5, "lacking", "(III)I"⟩
abbrev cX5_lacks : ByteArray := prog_7_method_47_code
def yX5_lacks : MethodName := ⟨RX5, "lacks", "(III)I"⟩
abbrev cX5_first : ByteArray := prog_7_method_48_code
def yX5_first : MethodName := ⟨RX5, "first", "()I"⟩
abbrev cX5_whole : ByteArray := prog_7_method_49_code
def yX5_whole : MethodName := ⟨RX5, "whole", "()I"⟩
abbrev cX5_seen : ByteArray := prog_7_method_50_code
def yX5_seen : MethodName := ⟨RX5, "seen", "()I"⟩
abbrev cX5_following : ByteArray := prog_7_method_51_code
def yX5_following : MethodName := ⟨RX5, "following", "(I)I"⟩
abbrev cX5_rounds : ByteArray := prog_7_method_52_code
def yX5_rounds : MethodName := ⟨RX5, "rounds", "()I"⟩
abbrev cX5_would : ByteArray := prog_7_method_53_code
def yX5_would : MethodName := ⟨RX5, "would", "(II)I"⟩
abbrev cX5_latest : ByteArray := prog_7_method_54_code
def yX5_latest : MethodName := ⟨RX5, "latest", "(I)I"⟩
abbrev cX5_count : ByteArray := prog_7_method_55_code
def yX5_count : MethodName := ⟨RX5, "count", "(I)I"⟩
abbrev cX5_undo : ByteArray := prog_7_method_56_code
def yX5_undo : MethodName := ⟨RX5, "undo", "()I"⟩
abbrev cX5_type : ByteArray := prog_7_method_57_code
def yX5_type : MethodName := ⟨RX5, "type", "(I)I"⟩
abbrev cX5_clearText : ByteArray := prog_7_method_58_code
def yX5_clearText : MethodName := ⟨RX5, "clearText", "()I"⟩
abbrev cX5_isAt : ByteArray := prog_7_method_59_code
def yX5_isAt : MethodName := ⟨RX5, "isAt", "(II)Z"⟩
abbrev cX5_sign : ByteArray := prog_7_method_60_code
def yX5_sign : MethodName := ⟨RX5, "sign", "(I)Z"⟩
abbrev cX5_number : ByteArray := prog_7_method_61_code
def yX5_number : MethodName := ⟨RX5, "number", "(I)Z"⟩
abbrev cX5_numbersOf : ByteArray := prog_7_method_62_code
def yX5_numbersOf : MethodName := ⟨RX5, "numbersOf", "(I)I"⟩
abbrev cX5_reads : ByteArray := prog_7_method_63_code
def yX5_reads : MethodName := ⟨RX5, "reads", "()Z"⟩
abbrev cX5_calls : ByteArray := prog_7_method_64_code
def yX5_calls : MethodName := ⟨RX5, "calls", "()I"⟩
abbrev cX5_plays : ByteArray := prog_7_method_65_code
def yX5_plays : MethodName := ⟨RX5, "plays", "()Z"⟩
abbrev cX5_fault : ByteArray := prog_7_method_66_code
def yX5_fault : MethodName := ⟨RX5, "fault", "(I)I"⟩
abbrev cX5_play : ByteArray := prog_7_method_67_code
def yX5_play : MethodName := ⟨RX5, "play", "()I"⟩
def RJ6 : String := "java/lang/Integer"
def TJ6 : u_T := fun k => match k with
  | _ => ("", "", "", false)
def tyJ6 : Nat → FieldType := fun k => match k with
  | _ => .int
abbrev wsJ60 : List Cond := u_ws RJ6 TJ6 0
theorem nmJ6 : ∀ a, a < 0 → ∀ b, b < 0 → a ≠ b → (TJ6 a).2.1 ≠ (TJ6 b).2.1 := by decide +kernel
theorem tyJ6_ok : ∀ k, k < 0 → parseFieldDescriptor (TJ6 k).2.2.1 = some (tyJ6 k) := by decide +kernel
abbrev cJ6_bitCount_0f7a4 : ByteArray := prog_8_method_49_code
def yJ6_bitCount_0f7a4 : MethodName := ⟨RJ6, "bitCount", "(I)I"⟩
def RJ10 : String := "java/lang/System"
def TJ10 : u_T := fun k => match k with
  | _ => ("", "", "", false)
def tyJ10 : Nat → FieldType := fun k => match k with
  | _ => .int
abbrev wsJ100 : List Cond := u_ws RJ10 TJ10 0
theorem nmJ10 : ∀ a, a < 0 → ∀ b, b < 0 → a ≠ b → (TJ10 a).2.1 ≠ (TJ10 b).2.1 := by decide +kernel
theorem tyJ10_ok : ∀ k, k < 0 → parseFieldDescriptor (TJ10 k).2.2.1 = some (tyJ10 k) := by decide +kernel
def RL : String := "PartedSumsLaw"
abbrev cL_law : ByteArray := code
def yL_law : MethodName := ⟨RL, "law", "([I)Z"⟩
abbrev vwCl : List vw_C := [(RX0, TX0, 4), (RX1, TX1, 5), (RX2, TX2, 9), (RX3, TX3, 11), (RX4, TX4, 6), (RX5, TX5, 15)]
