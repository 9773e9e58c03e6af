-- ===== PART A: goes FIRST, ahead of the names: the tables' words, and 'selects' of the private methods out of them =====
/-- a private method of a class that the tables say can be made, by its rows of tables_1 -/
def lw_okq (q : MethodName × Nat) : Prop := (q.1.cls ≠ "java/lang/invoke/MethodHandle" ∧ q.1.cls ≠ "java/lang/invoke/VarHandle") ∧ Cond.instantiable q.1.cls q.2 ∈ tables_1 ∧ Cond.privateMethod q.1 ∈ tables_1 ∧ Cond.instanceMethod q.1 ∈ tables_1
theorem lw_p0 : lw_okq (⟨"java/lang/Throwable", "fillInStackTrace", "(I)Ljava/lang/Throwable;"⟩, 6) := ⟨⟨by decide +kernel, by decide +kernel⟩, List.mem_of_getElem? (i := 256) (by decide +kernel), List.mem_of_getElem? (i := 254) (by decide +kernel), List.mem_of_getElem? (i := 255) (by decide +kernel)⟩
theorem lw_p1 : lw_okq (⟨"NumberFieldFactors", "requireElement", "(I)V"⟩, 3) := ⟨⟨by decide +kernel, by decide +kernel⟩, List.mem_of_getElem? (i := 15) (by decide +kernel), List.mem_of_getElem? (i := 346) (by decide +kernel), List.mem_of_getElem? (i := 347) (by decide +kernel)⟩
theorem lw_p2 : lw_okq (⟨"NumberFieldFactors", "requireSome", "()V"⟩, 3) := ⟨⟨by decide +kernel, by decide +kernel⟩, List.mem_of_getElem? (i := 15) (by decide +kernel), List.mem_of_getElem? (i := 460) (by decide +kernel), List.mem_of_getElem? (i := 461) (by decide +kernel)⟩
theorem lw_p3 : lw_okq (⟨"NumberFieldFactors$Splitter", "keepRoot", "(LNumberFieldFactors$Ring;LNumberFieldFactors$Row;)V"⟩, 8) := ⟨⟨by decide +kernel, by decide +kernel⟩, List.mem_of_getElem? (i := 115) (by decide +kernel), List.mem_of_getElem? (i := 502) (by decide +kernel), List.mem_of_getElem? (i := 503) (by decide +kernel)⟩
theorem lw_p4 : lw_okq (⟨"NumberFieldFactors$Splitter", "collect", "(LNumberFieldFactors$Ring;I)V"⟩, 8) := ⟨⟨by decide +kernel, by decide +kernel⟩, List.mem_of_getElem? (i := 115) (by decide +kernel), List.mem_of_getElem? (i := 510) (by decide +kernel), List.mem_of_getElem? (i := 511) (by decide +kernel)⟩
theorem lw_p5 : lw_okq (⟨"NumberFieldFactors$Splitter", "add", "(LNumberFieldFactors$Row;)V"⟩, 8) := ⟨⟨by decide +kernel, by decide +kernel⟩, List.mem_of_getElem? (i := 115) (by decide +kernel), List.mem_of_getElem? (i := 525) (by decide +kernel), List.mem_of_getElem? (i := 526) (by decide +kernel)⟩
theorem lw_p6 : lw_okq (⟨"NumberFieldFactors$Splitter", "separate", "(LNumberFieldFactors$Ring;II)V"⟩, 8) := ⟨⟨by decide +kernel, by decide +kernel⟩, List.mem_of_getElem? (i := 115) (by decide +kernel), List.mem_of_getElem? (i := 529) (by decide +kernel), List.mem_of_getElem? (i := 530) (by decide +kernel)⟩
theorem lw_p7 : lw_okq (⟨"NumberFieldFactors$Splitter", "sort", "()V"⟩, 8) := ⟨⟨by decide +kernel, by decide +kernel⟩, List.mem_of_getElem? (i := 115) (by decide +kernel), List.mem_of_getElem? (i := 538) (by decide +kernel), List.mem_of_getElem? (i := 539) (by decide +kernel)⟩
theorem lw_p8 : lw_okq (⟨"NumberFieldFactors$Splitter", "countTimes", "(LNumberFieldFactors$Ring;LNumberFieldFactors$Row;)V"⟩, 8) := ⟨⟨by decide +kernel, by decide +kernel⟩, List.mem_of_getElem? (i := 115) (by decide +kernel), List.mem_of_getElem? (i := 547) (by decide +kernel), List.mem_of_getElem? (i := 548) (by decide +kernel)⟩
theorem lw_p9 : lw_okq (⟨"NumberFieldFactors", "requireFactor", "(I)V"⟩, 3) := ⟨⟨by decide +kernel, by decide +kernel⟩, List.mem_of_getElem? (i := 15) (by decide +kernel), List.mem_of_getElem? (i := 575) (by decide +kernel), List.mem_of_getElem? (i := 576) (by decide +kernel)⟩
theorem lw_p10 : lw_okq (⟨"NumberFieldFactorsModel", "fails", "(ZZ)Z"⟩, 10) := ⟨⟨by decide +kernel, by decide +kernel⟩, List.mem_of_getElem? (i := 619) (by decide +kernel), List.mem_of_getElem? (i := 665) (by decide +kernel), List.mem_of_getElem? (i := 666) (by decide +kernel)⟩
theorem lw_p11 : lw_okq (⟨"NumberFieldFactorsModel", "clear", "(I)V"⟩, 10) := ⟨⟨by decide +kernel, by decide +kernel⟩, List.mem_of_getElem? (i := 619) (by decide +kernel), List.mem_of_getElem? (i := 674) (by decide +kernel), List.mem_of_getElem? (i := 675) (by decide +kernel)⟩
theorem lw_p12 : lw_okq (⟨"NumberFieldFactorsModel", "isPower", "(I)Z"⟩, 10) := ⟨⟨by decide +kernel, by decide +kernel⟩, List.mem_of_getElem? (i := 619) (by decide +kernel), List.mem_of_getElem? (i := 686) (by decide +kernel), List.mem_of_getElem? (i := 687) (by decide +kernel)⟩
theorem lw_p13 : lw_okq (⟨"NumberFieldFactorsModel", "isElement", "(I)Z"⟩, 10) := ⟨⟨by decide +kernel, by decide +kernel⟩, List.mem_of_getElem? (i := 619) (by decide +kernel), List.mem_of_getElem? (i := 690) (by decide +kernel), List.mem_of_getElem? (i := 691) (by decide +kernel)⟩
theorem lw_p14 : lw_okq (⟨"NumberFieldFactorsModel", "cell", "(II)I"⟩, 10) := ⟨⟨by decide +kernel, by decide +kernel⟩, List.mem_of_getElem? (i := 619) (by decide +kernel), List.mem_of_getElem? (i := 694) (by decide +kernel), List.mem_of_getElem? (i := 695) (by decide +kernel)⟩
theorem lw_p15 : lw_okq (⟨"NumberFieldFactorsModel", "set", "(III)V"⟩, 10) := ⟨⟨by decide +kernel, by decide +kernel⟩, List.mem_of_getElem? (i := 619) (by decide +kernel), List.mem_of_getElem? (i := 698) (by decide +kernel), List.mem_of_getElem? (i := 699) (by decide +kernel)⟩
def lw_privs_1 : List (MethodName × Nat) := [(⟨"java/lang/Throwable", "fillInStackTrace", "(I)Ljava/lang/Throwable;"⟩, 6), (⟨"NumberFieldFactors", "requireElement", "(I)V"⟩, 3), (⟨"NumberFieldFactors", "requireSome", "()V"⟩, 3), (⟨"NumberFieldFactors$Splitter", "keepRoot", "(LNumberFieldFactors$Ring;LNumberFieldFactors$Row;)V"⟩, 8), (⟨"NumberFieldFactors$Splitter", "collect", "(LNumberFieldFactors$Ring;I)V"⟩, 8), (⟨"NumberFieldFactors$Splitter", "add", "(LNumberFieldFactors$Row;)V"⟩, 8), (⟨"NumberFieldFactors$Splitter", "separate", "(LNumberFieldFactors$Ring;II)V"⟩, 8), (⟨"NumberFieldFactors$Splitter", "sort", "()V"⟩, 8), (⟨"NumberFieldFactors$Splitter", "countTimes", "(LNumberFieldFactors$Ring;LNumberFieldFactors$Row;)V"⟩, 8), (⟨"NumberFieldFactors", "requireFactor", "(I)V"⟩, 3), (⟨"NumberFieldFactorsModel", "fails", "(ZZ)Z"⟩, 10), (⟨"NumberFieldFactorsModel", "clear", "(I)V"⟩, 10), (⟨"NumberFieldFactorsModel", "isPower", "(I)Z"⟩, 10), (⟨"NumberFieldFactorsModel", "isElement", "(I)Z"⟩, 10), (⟨"NumberFieldFactorsModel", "cell", "(II)I"⟩, 10), (⟨"NumberFieldFactorsModel", "set", "(III)V"⟩, 10)]
theorem lw_r1 : ∀ q ∈ lw_privs_1, lw_okq q := List.forall_mem_cons.mpr ⟨lw_p0, List.forall_mem_cons.mpr ⟨lw_p1, List.forall_mem_cons.mpr ⟨lw_p2, List.forall_mem_cons.mpr ⟨lw_p3, List.forall_mem_cons.mpr ⟨lw_p4, List.forall_mem_cons.mpr ⟨lw_p5, List.forall_mem_cons.mpr ⟨lw_p6, List.forall_mem_cons.mpr ⟨lw_p7, List.forall_mem_cons.mpr ⟨lw_p8, List.forall_mem_cons.mpr ⟨lw_p9, List.forall_mem_cons.mpr ⟨lw_p10, List.forall_mem_cons.mpr ⟨lw_p11, List.forall_mem_cons.mpr ⟨lw_p12, List.forall_mem_cons.mpr ⟨lw_p13, List.forall_mem_cons.mpr ⟨lw_p14, List.forall_mem_cons.mpr ⟨lw_p15, fun _ h => absurd h List.not_mem_nil⟩⟩⟩⟩⟩⟩⟩⟩⟩⟩⟩⟩⟩⟩⟩⟩
theorem lw_p16 : lw_okq (⟨"NumberFieldFactorsModel", "inverse", "(I)I"⟩, 10) := ⟨⟨by decide +kernel, by decide +kernel⟩, List.mem_of_getElem? (i := 619) (by decide +kernel), List.mem_of_getElem? (i := 719) (by decide +kernel), List.mem_of_getElem? (i := 720) (by decide +kernel)⟩
theorem lw_p17 : lw_okq (⟨"NumberFieldFactorsModel", "power", "(IJ)I"⟩, 10) := ⟨⟨by decide +kernel, by decide +kernel⟩, List.mem_of_getElem? (i := 619) (by decide +kernel), List.mem_of_getElem? (i := 724) (by decide +kernel), List.mem_of_getElem? (i := 725) (by decide +kernel)⟩
theorem lw_p18 : lw_okq (⟨"NumberFieldFactorsModel", "times", "(II)I"⟩, 10) := ⟨⟨by decide +kernel, by decide +kernel⟩, List.mem_of_getElem? (i := 619) (by decide +kernel), List.mem_of_getElem? (i := 728) (by decide +kernel), List.mem_of_getElem? (i := 729) (by decide +kernel)⟩
theorem lw_p19 : lw_okq (⟨"NumberFieldFactorsModel", "mate", "(II)I"⟩, 10) := ⟨⟨by decide +kernel, by decide +kernel⟩, List.mem_of_getElem? (i := 619) (by decide +kernel), List.mem_of_getElem? (i := 739) (by decide +kernel), List.mem_of_getElem? (i := 740) (by decide +kernel)⟩
theorem lw_p20 : lw_okq (⟨"NumberFieldFactorsModel", "mates", "(I)I"⟩, 10) := ⟨⟨by decide +kernel, by decide +kernel⟩, List.mem_of_getElem? (i := 619) (by decide +kernel), List.mem_of_getElem? (i := 743) (by decide +kernel), List.mem_of_getElem? (i := 744) (by decide +kernel)⟩
theorem lw_p21 : lw_okq (⟨"NumberFieldFactorsModel", "product", "(III)V"⟩, 10) := ⟨⟨by decide +kernel, by decide +kernel⟩, List.mem_of_getElem? (i := 619) (by decide +kernel), List.mem_of_getElem? (i := 751) (by decide +kernel), List.mem_of_getElem? (i := 752) (by decide +kernel)⟩
theorem lw_p22 : lw_okq (⟨"NumberFieldFactorsModel", "copy", "(II)V"⟩, 10) := ⟨⟨by decide +kernel, by decide +kernel⟩, List.mem_of_getElem? (i := 619) (by decide +kernel), List.mem_of_getElem? (i := 755) (by decide +kernel), List.mem_of_getElem? (i := 756) (by decide +kernel)⟩
theorem lw_p23 : lw_okq (⟨"NumberFieldFactorsModel", "normOf", "(II)V"⟩, 10) := ⟨⟨by decide +kernel, by decide +kernel⟩, List.mem_of_getElem? (i := 619) (by decide +kernel), List.mem_of_getElem? (i := 767) (by decide +kernel), List.mem_of_getElem? (i := 768) (by decide +kernel)⟩
theorem lw_p24 : lw_okq (⟨"NumberFieldFactorsModel", "isNothing", "()Z"⟩, 10) := ⟨⟨by decide +kernel, by decide +kernel⟩, List.mem_of_getElem? (i := 619) (by decide +kernel), List.mem_of_getElem? (i := 775) (by decide +kernel), List.mem_of_getElem? (i := 776) (by decide +kernel)⟩
theorem lw_p25 : lw_okq (⟨"NumberFieldFactorsModel", "root", "()V"⟩, 10) := ⟨⟨by decide +kernel, by decide +kernel⟩, List.mem_of_getElem? (i := 619) (by decide +kernel), List.mem_of_getElem? (i := 779) (by decide +kernel), List.mem_of_getElem? (i := 780) (by decide +kernel)⟩
theorem lw_p26 : lw_okq (⟨"NumberFieldFactorsModel", "slope", "(II)V"⟩, 10) := ⟨⟨by decide +kernel, by decide +kernel⟩, List.mem_of_getElem? (i := 619) (by decide +kernel), List.mem_of_getElem? (i := 783) (by decide +kernel), List.mem_of_getElem? (i := 784) (by decide +kernel)⟩
theorem lw_p27 : lw_okq (⟨"NumberFieldFactorsModel", "divisor", "(II)V"⟩, 10) := ⟨⟨by decide +kernel, by decide +kernel⟩, List.mem_of_getElem? (i := 619) (by decide +kernel), List.mem_of_getElem? (i := 787) (by decide +kernel), List.mem_of_getElem? (i := 788) (by decide +kernel)⟩
theorem lw_p28 : lw_okq (⟨"NumberFieldFactorsModel", "divide", "(III)V"⟩, 10) := ⟨⟨by decide +kernel, by decide +kernel⟩, List.mem_of_getElem? (i := 619) (by decide +kernel), List.mem_of_getElem? (i := 791) (by decide +kernel), List.mem_of_getElem? (i := 792) (by decide +kernel)⟩
theorem lw_p29 : lw_okq (⟨"NumberFieldFactorsModel", "monic", "(I)V"⟩, 10) := ⟨⟨by decide +kernel, by decide +kernel⟩, List.mem_of_getElem? (i := 619) (by decide +kernel), List.mem_of_getElem? (i := 795) (by decide +kernel), List.mem_of_getElem? (i := 796) (by decide +kernel)⟩
theorem lw_p30 : lw_okq (⟨"NumberFieldFactorsModel", "moved", "(III)V"⟩, 10) := ⟨⟨by decide +kernel, by decide +kernel⟩, List.mem_of_getElem? (i := 619) (by decide +kernel), List.mem_of_getElem? (i := 799) (by decide +kernel), List.mem_of_getElem? (i := 800) (by decide +kernel)⟩
theorem lw_p31 : lw_okq (⟨"NumberFieldFactorsModel", "factorise", "()V"⟩, 10) := ⟨⟨by decide +kernel, by decide +kernel⟩, List.mem_of_getElem? (i := 619) (by decide +kernel), List.mem_of_getElem? (i := 807) (by decide +kernel), List.mem_of_getElem? (i := 808) (by decide +kernel)⟩
def lw_privs_2 : List (MethodName × Nat) := [(⟨"NumberFieldFactorsModel", "inverse", "(I)I"⟩, 10), (⟨"NumberFieldFactorsModel", "power", "(IJ)I"⟩, 10), (⟨"NumberFieldFactorsModel", "times", "(II)I"⟩, 10), (⟨"NumberFieldFactorsModel", "mate", "(II)I"⟩, 10), (⟨"NumberFieldFactorsModel", "mates", "(I)I"⟩, 10), (⟨"NumberFieldFactorsModel", "product", "(III)V"⟩, 10), (⟨"NumberFieldFactorsModel", "copy", "(II)V"⟩, 10), (⟨"NumberFieldFactorsModel", "normOf", "(II)V"⟩, 10), (⟨"NumberFieldFactorsModel", "isNothing", "()Z"⟩, 10), (⟨"NumberFieldFactorsModel", "root", "()V"⟩, 10), (⟨"NumberFieldFactorsModel", "slope", "(II)V"⟩, 10), (⟨"NumberFieldFactorsModel", "divisor", "(II)V"⟩, 10), (⟨"NumberFieldFactorsModel", "divide", "(III)V"⟩, 10), (⟨"NumberFieldFactorsModel", "monic", "(I)V"⟩, 10), (⟨"NumberFieldFactorsModel", "moved", "(III)V"⟩, 10), (⟨"NumberFieldFactorsModel", "factorise", "()V"⟩, 10)]
theorem lw_r2 : ∀ q ∈ lw_privs_2, lw_okq q := List.forall_mem_cons.mpr ⟨lw_p16, List.forall_mem_cons.mpr ⟨lw_p17, List.forall_mem_cons.mpr ⟨lw_p18, List.forall_mem_cons.mpr ⟨lw_p19, List.forall_mem_cons.mpr ⟨lw_p20, List.forall_mem_cons.mpr ⟨lw_p21, List.forall_mem_cons.mpr ⟨lw_p22, List.forall_mem_cons.mpr ⟨lw_p23, List.forall_mem_cons.mpr ⟨lw_p24, List.forall_mem_cons.mpr ⟨lw_p25, List.forall_mem_cons.mpr ⟨lw_p26, List.forall_mem_cons.mpr ⟨lw_p27, List.forall_mem_cons.mpr ⟨lw_p28, List.forall_mem_cons.mpr ⟨lw_p29, List.forall_mem_cons.mpr ⟨lw_p30, List.forall_mem_cons.mpr ⟨lw_p31, fun _ h => absurd h List.not_mem_nil⟩⟩⟩⟩⟩⟩⟩⟩⟩⟩⟩⟩⟩⟩⟩⟩
theorem lw_p32 : lw_okq (⟨"NumberFieldFactorsModel", "split", "()V"⟩, 10) := ⟨⟨by decide +kernel, by decide +kernel⟩, List.mem_of_getElem? (i := 619) (by decide +kernel), List.mem_of_getElem? (i := 811) (by decide +kernel), List.mem_of_getElem? (i := 812) (by decide +kernel)⟩
theorem lw_p33 : lw_okq (⟨"NumberFieldFactorsModel", "found", "(I)V"⟩, 10) := ⟨⟨by decide +kernel, by decide +kernel⟩, List.mem_of_getElem? (i := 619) (by decide +kernel), List.mem_of_getElem? (i := 815) (by decide +kernel), List.mem_of_getElem? (i := 816) (by decide +kernel)⟩
theorem lw_p34 : lw_okq (⟨"NumberFieldFactorsModel", "powers", "(IJII)V"⟩, 10) := ⟨⟨by decide +kernel, by decide +kernel⟩, List.mem_of_getElem? (i := 619) (by decide +kernel), List.mem_of_getElem? (i := 819) (by decide +kernel), List.mem_of_getElem? (i := 820) (by decide +kernel)⟩
theorem lw_p35 : lw_okq (⟨"NumberFieldFactorsModel", "parts", "(I)V"⟩, 10) := ⟨⟨by decide +kernel, by decide +kernel⟩, List.mem_of_getElem? (i := 619) (by decide +kernel), List.mem_of_getElem? (i := 823) (by decide +kernel), List.mem_of_getElem? (i := 824) (by decide +kernel)⟩
theorem lw_p36 : lw_okq (⟨"NumberFieldFactorsModel", "order", "()V"⟩, 10) := ⟨⟨by decide +kernel, by decide +kernel⟩, List.mem_of_getElem? (i := 619) (by decide +kernel), List.mem_of_getElem? (i := 827) (by decide +kernel), List.mem_of_getElem? (i := 828) (by decide +kernel)⟩
theorem lw_p37 : lw_okq (⟨"NumberFieldFactorsModel", "isAhead", "(II)Z"⟩, 10) := ⟨⟨by decide +kernel, by decide +kernel⟩, List.mem_of_getElem? (i := 619) (by decide +kernel), List.mem_of_getElem? (i := 831) (by decide +kernel), List.mem_of_getElem? (i := 832) (by decide +kernel)⟩
theorem lw_p38 : lw_okq (⟨"NumberFieldFactorsModel", "lacks", "(I)Z"⟩, 10) := ⟨⟨by decide +kernel, by decide +kernel⟩, List.mem_of_getElem? (i := 619) (by decide +kernel), List.mem_of_getElem? (i := 839) (by decide +kernel), List.mem_of_getElem? (i := 840) (by decide +kernel)⟩
def lw_privs_3 : List (MethodName × Nat) := [(⟨"NumberFieldFactorsModel", "split", "()V"⟩, 10), (⟨"NumberFieldFactorsModel", "found", "(I)V"⟩, 10), (⟨"NumberFieldFactorsModel", "powers", "(IJII)V"⟩, 10), (⟨"NumberFieldFactorsModel", "parts", "(I)V"⟩, 10), (⟨"NumberFieldFactorsModel", "order", "()V"⟩, 10), (⟨"NumberFieldFactorsModel", "isAhead", "(II)Z"⟩, 10), (⟨"NumberFieldFactorsModel", "lacks", "(I)Z"⟩, 10)]
theorem lw_r3 : ∀ q ∈ lw_privs_3, lw_okq q := List.forall_mem_cons.mpr ⟨lw_p32, List.forall_mem_cons.mpr ⟨lw_p33, List.forall_mem_cons.mpr ⟨lw_p34, List.forall_mem_cons.mpr ⟨lw_p35, List.forall_mem_cons.mpr ⟨lw_p36, List.forall_mem_cons.mpr ⟨lw_p37, List.forall_mem_cons.mpr ⟨lw_p38, fun _ h => absurd h List.not_mem_nil⟩⟩⟩⟩⟩⟩⟩
def lw_privs : List (MethodName × Nat) := lw_privs_1 ++ (lw_privs_2 ++ (lw_privs_3))
def lw_tbl : List Cond := k2_sels lw_privs ++ tables_1
theorem lw_privs_ok : ∀ q ∈ lw_privs, lw_okq q := by
  show ∀ q ∈ lw_privs_1 ++ (lw_privs_2 ++ (lw_privs_3)), lw_okq q
  exact List.forall_mem_append.mpr ⟨lw_r1, List.forall_mem_append.mpr ⟨lw_r2, lw_r3⟩⟩
set_option maxRecDepth 100000 in
theorem tb_BW0 : ∀ w ∈ BW0, w ∈ lw_tbl := by decide +kernel
set_option maxRecDepth 100000 in
theorem tb_BW1 : ∀ w ∈ BW1, w ∈ lw_tbl := by decide +kernel
set_option maxRecDepth 100000 in
theorem tb_BW2 : ∀ w ∈ BW2, w ∈ lw_tbl := by decide +kernel
set_option maxRecDepth 100000 in
theorem tb_BW3 : ∀ w ∈ BW3, w ∈ lw_tbl := by decide +kernel
set_option maxRecDepth 100000 in
theorem tb_BW4 : ∀ w ∈ BW4, w ∈ lw_tbl := by decide +kernel
set_option maxRecDepth 100000 in
theorem tb_BW5 : ∀ w ∈ BW5, w ∈ lw_tbl := by decide +kernel
set_option maxRecDepth 100000 in
theorem tb_BW6 : ∀ w ∈ BW6, w ∈ lw_tbl := by decide +kernel
set_option maxRecDepth 100000 in
theorem tb_BW7 : ∀ w ∈ BW7, w ∈ lw_tbl := by decide +kernel
set_option maxRecDepth 100000 in
theorem tb_BW8 : ∀ w ∈ BW8, w ∈ lw_tbl := by decide +kernel
set_option maxRecDepth 100000 in
theorem tb_BW9 : ∀ w ∈ BW9, w ∈ lw_tbl := by decide +kernel
set_option maxRecDepth 100000 in
theorem tb_BW10 : ∀ w ∈ BW10, w ∈ lw_tbl := by decide +kernel
set_option maxRecDepth 100000 in
theorem tb_wsX00 : ∀ w ∈ wsX00, w ∈ lw_tbl := by decide +kernel
set_option maxRecDepth 100000 in
theorem tb_wsX10 : ∀ w ∈ wsX10, w ∈ lw_tbl := by decide +kernel
set_option maxRecDepth 100000 in
theorem tb_wsX20 : ∀ w ∈ wsX20, w ∈ lw_tbl := by decide +kernel
set_option maxRecDepth 100000 in
theorem tb_wsX30 : ∀ w ∈ wsX30, w ∈ lw_tbl := by decide +kernel
set_option maxRecDepth 100000 in
theorem tb_wsX40 : ∀ w ∈ wsX40, w ∈ lw_tbl := by decide +kernel
set_option maxRecDepth 100000 in
theorem tb_wsX50 : ∀ w ∈ wsX50, w ∈ lw_tbl := by decide +kernel
set_option maxRecDepth 100000 in
theorem tb_wsJ00 : ∀ w ∈ wsJ00, w ∈ lw_tbl := by decide +kernel
set_option maxRecDepth 100000 in
theorem tb_BWx0 : ∀ w ∈ BWx0, w ∈ lw_tbl := by decide +kernel
set_option maxRecDepth 100000 in
theorem tb_BWx1 : ∀ w ∈ BWx1, w ∈ lw_tbl := by decide +kernel
set_option maxRecDepth 100000 in
theorem tb_BWx2 : ∀ w ∈ BWx2, w ∈ lw_tbl := by decide +kernel
set_option maxRecDepth 100000 in
theorem tb_BWx3 : ∀ w ∈ BWx3, w ∈ lw_tbl := by decide +kernel
theorem tb_BW : ∀ w ∈ BW, w ∈ lw_tbl := by
  unfold BW
  exact List.forall_mem_append.mpr ⟨tb_BW0, List.forall_mem_append.mpr ⟨tb_BW1, List.forall_mem_append.mpr ⟨tb_BW2, List.forall_mem_append.mpr ⟨tb_BW3, List.forall_mem_append.mpr ⟨tb_BW4, List.forall_mem_append.mpr ⟨tb_BW5, List.forall_mem_append.mpr ⟨tb_BW6, List.forall_mem_append.mpr ⟨tb_BW7, List.forall_mem_append.mpr ⟨tb_BW8, List.forall_mem_append.mpr ⟨tb_BW9, List.forall_mem_append.mpr ⟨tb_BW10, List.forall_mem_append.mpr ⟨tb_wsX00, List.forall_mem_append.mpr ⟨tb_wsX10, List.forall_mem_append.mpr ⟨tb_wsX20, List.forall_mem_append.mpr ⟨tb_wsX30, List.forall_mem_append.mpr ⟨tb_wsX40, List.forall_mem_append.mpr ⟨tb_wsX50, List.forall_mem_append.mpr ⟨tb_wsJ00, List.forall_mem_append.mpr ⟨tb_BWx0, List.forall_mem_append.mpr ⟨tb_BWx1, List.forall_mem_append.mpr ⟨tb_BWx2, tb_BWx3⟩⟩⟩⟩⟩⟩⟩⟩⟩⟩⟩⟩⟩⟩⟩⟩⟩⟩⟩⟩⟩
