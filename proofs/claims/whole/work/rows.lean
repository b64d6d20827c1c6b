section
-- ===== PART A: goes FIRST, ahead of the names: the tables' words, and 'selects' of the private methods out of them =====
/-- a private method of a class that the tables say can be made, by its rows of tables_1 -/
def lw_okq (q : MethodName × Nat) : Prop := (q.1.cls ≠ "java/lang/invoke/MethodHandle" ∧ q.1.cls ≠ "java/lang/invoke/VarHandle") ∧ Cond.instantiable q.1.cls q.2 ∈ tables_1 ∧ Cond.privateMethod q.1 ∈ tables_1 ∧ Cond.instanceMethod q.1 ∈ tables_1
theorem lw_p0 : lw_okq (⟨"java/lang/Throwable", "fillInStackTrace", "(I)Ljava/lang/Throwable;"⟩, 6) := ⟨⟨by decide +kernel, by decide +kernel⟩, List.mem_of_getElem? (i := 270) (by decide +kernel), List.mem_of_getElem? (i := 268) (by decide +kernel), List.mem_of_getElem? (i := 269) (by decide +kernel)⟩
theorem lw_p1 : lw_okq (⟨"BoxofficeRow", "needSeat", "(II)V"⟩, 6) := ⟨⟨by decide +kernel, by decide +kernel⟩, List.mem_of_getElem? (i := 15) (by decide +kernel), List.mem_of_getElem? (i := 328) (by decide +kernel), List.mem_of_getElem? (i := 329) (by decide +kernel)⟩
theorem lw_p2 : lw_okq (⟨"BoxofficeRow", "needRow", "(I)V"⟩, 6) := ⟨⟨by decide +kernel, by decide +kernel⟩, List.mem_of_getElem? (i := 15) (by decide +kernel), List.mem_of_getElem? (i := 402) (by decide +kernel), List.mem_of_getElem? (i := 403) (by decide +kernel)⟩
theorem lw_p3 : lw_okq (⟨"BoxofficeRow", "needBest", "(I)I"⟩, 6) := ⟨⟨by decide +kernel, by decide +kernel⟩, List.mem_of_getElem? (i := 15) (by decide +kernel), List.mem_of_getElem? (i := 422) (by decide +kernel), List.mem_of_getElem? (i := 423) (by decide +kernel)⟩
theorem lw_p4 : lw_okq (⟨"BoxofficeRow", "needTicketLeft", "()V"⟩, 6) := ⟨⟨by decide +kernel, by decide +kernel⟩, List.mem_of_getElem? (i := 15) (by decide +kernel), List.mem_of_getElem? (i := 466) (by decide +kernel), List.mem_of_getElem? (i := 467) (by decide +kernel)⟩
theorem lw_p5 : lw_okq (⟨"BoxofficeRow", "grantBlock", "(IIII)I"⟩, 6) := ⟨⟨by decide +kernel, by decide +kernel⟩, List.mem_of_getElem? (i := 15) (by decide +kernel), List.mem_of_getElem? (i := 471) (by decide +kernel), List.mem_of_getElem? (i := 472) (by decide +kernel)⟩
theorem lw_p6 : lw_okq (⟨"BoxofficeRow", "needSplit", "(I)V"⟩, 6) := ⟨⟨by decide +kernel, by decide +kernel⟩, List.mem_of_getElem? (i := 15) (by decide +kernel), List.mem_of_getElem? (i := 502) (by decide +kernel), List.mem_of_getElem? (i := 503) (by decide +kernel)⟩
theorem lw_p7 : lw_okq (⟨"BoxofficeRow$GroupSplit", "startBehindLastRow", "(I)V"⟩, 8) := ⟨⟨by decide +kernel, by decide +kernel⟩, List.mem_of_getElem? (i := 82) (by decide +kernel), List.mem_of_getElem? (i := 510) (by decide +kernel), List.mem_of_getElem? (i := 511) (by decide +kernel)⟩
theorem lw_p8 : lw_okq (⟨"BoxofficeRow$GroupSplit", "readBlocks", "(I)V"⟩, 8) := ⟨⟨by decide +kernel, by decide +kernel⟩, List.mem_of_getElem? (i := 82) (by decide +kernel), List.mem_of_getElem? (i := 515) (by decide +kernel), List.mem_of_getElem? (i := 516) (by decide +kernel)⟩
theorem lw_p9 : lw_okq (⟨"BoxofficeRow$GroupSplit", "decide", "(II)V"⟩, 8) := ⟨⟨by decide +kernel, by decide +kernel⟩, List.mem_of_getElem? (i := 82) (by decide +kernel), List.mem_of_getElem? (i := 522) (by decide +kernel), List.mem_of_getElem? (i := 523) (by decide +kernel)⟩
theorem lw_p10 : lw_okq (⟨"BoxofficeRow$GroupSplit", "takeFromRows", "(I)V"⟩, 8) := ⟨⟨by decide +kernel, by decide +kernel⟩, List.mem_of_getElem? (i := 82) (by decide +kernel), List.mem_of_getElem? (i := 529) (by decide +kernel), List.mem_of_getElem? (i := 530) (by decide +kernel)⟩
theorem lw_p11 : lw_okq (⟨"BoxofficeRow$GroupSplit", "mostSeats", "(II)I"⟩, 8) := ⟨⟨by decide +kernel, by decide +kernel⟩, List.mem_of_getElem? (i := 82) (by decide +kernel), List.mem_of_getElem? (i := 533) (by decide +kernel), List.mem_of_getElem? (i := 534) (by decide +kernel)⟩
theorem lw_p12 : lw_okq (⟨"BoxofficeRow$GroupSplit", "keepsBest", "(III)Z"⟩, 8) := ⟨⟨by decide +kernel, by decide +kernel⟩, List.mem_of_getElem? (i := 82) (by decide +kernel), List.mem_of_getElem? (i := 537) (by decide +kernel), List.mem_of_getElem? (i := 538) (by decide +kernel)⟩
theorem lw_p13 : lw_okq (⟨"BoxofficeRow", "grantSplit", "(II)I"⟩, 6) := ⟨⟨by decide +kernel, by decide +kernel⟩, List.mem_of_getElem? (i := 15) (by decide +kernel), List.mem_of_getElem? (i := 565) (by decide +kernel), List.mem_of_getElem? (i := 566) (by decide +kernel)⟩
theorem lw_p14 : lw_okq (⟨"BoxofficeRow", "needTicket", "(I)V"⟩, 6) := ⟨⟨by decide +kernel, by decide +kernel⟩, List.mem_of_getElem? (i := 15) (by decide +kernel), List.mem_of_getElem? (i := 580) (by decide +kernel), List.mem_of_getElem? (i := 581) (by decide +kernel)⟩
theorem lw_p15 : lw_okq (⟨"BoxofficeRow", "needHold", "(I)V"⟩, 6) := ⟨⟨by decide +kernel, by decide +kernel⟩, List.mem_of_getElem? (i := 15) (by decide +kernel), List.mem_of_getElem? (i := 620) (by decide +kernel), List.mem_of_getElem? (i := 621) (by decide +kernel)⟩
def lw_privs_1 : List (MethodName × Nat) := [(⟨"java/lang/Throwable", "fillInStackTrace", "(I)Ljava/lang/Throwable;"⟩, 6), (⟨"BoxofficeRow", "needSeat", "(II)V"⟩, 6), (⟨"BoxofficeRow", "needRow", "(I)V"⟩, 6), (⟨"BoxofficeRow", "needBest", "(I)I"⟩, 6), (⟨"BoxofficeRow", "needTicketLeft", "()V"⟩, 6), (⟨"BoxofficeRow", "grantBlock", "(IIII)I"⟩, 6), (⟨"BoxofficeRow", "needSplit", "(I)V"⟩, 6), (⟨"BoxofficeRow$GroupSplit", "startBehindLastRow", "(I)V"⟩, 8), (⟨"BoxofficeRow$GroupSplit", "readBlocks", "(I)V"⟩, 8), (⟨"BoxofficeRow$GroupSplit", "decide", "(II)V"⟩, 8), (⟨"BoxofficeRow$GroupSplit", "takeFromRows", "(I)V"⟩, 8), (⟨"BoxofficeRow$GroupSplit", "mostSeats", "(II)I"⟩, 8), (⟨"BoxofficeRow$GroupSplit", "keepsBest", "(III)Z"⟩, 8), (⟨"BoxofficeRow", "grantSplit", "(II)I"⟩, 6), (⟨"BoxofficeRow", "needTicket", "(I)V"⟩, 6), (⟨"BoxofficeRow", "needHold", "(I)V"⟩, 6)]
theorem lw_r1 : ∀ q ∈ lw_privs_1, lw_okq q := List.forall_mem_cons.mpr ⟨lw_p0, List.forall_mem_cons.mpr ⟨lw_p1, List.forall_mem_cons.mpr ⟨lw_p2, List.forall_mem_cons.mpr ⟨lw_p3, List.forall_mem_cons.mpr ⟨lw_p4, List.forall_mem_cons.mpr ⟨lw_p5, List.forall_mem_cons.mpr ⟨lw_p6, List.forall_mem_cons.mpr ⟨lw_p7, List.forall_mem_cons.mpr ⟨lw_p8, List.forall_mem_cons.mpr ⟨lw_p9, List.forall_mem_cons.mpr ⟨lw_p10, List.forall_mem_cons.mpr ⟨lw_p11, List.forall_mem_cons.mpr ⟨lw_p12, List.forall_mem_cons.mpr ⟨lw_p13, List.forall_mem_cons.mpr ⟨lw_p14, List.forall_mem_cons.mpr ⟨lw_p15, fun _ h => absurd h List.not_mem_nil⟩⟩⟩⟩⟩⟩⟩⟩⟩⟩⟩⟩⟩⟩⟩⟩
theorem lw_p16 : lw_okq (⟨"BoxofficeRow", "closeTicket", "(II)V"⟩, 6) := ⟨⟨by decide +kernel, by decide +kernel⟩, List.mem_of_getElem? (i := 15) (by decide +kernel), List.mem_of_getElem? (i := 657) (by decide +kernel), List.mem_of_getElem? (i := 658) (by decide +kernel)⟩
theorem lw_p17 : lw_okq (⟨"BoxofficeRow$ExchangeChain", "markEnds", "(I)V"⟩, 6) := ⟨⟨by decide +kernel, by decide +kernel⟩, List.mem_of_getElem? (i := 114) (by decide +kernel), List.mem_of_getElem? (i := 727) (by decide +kernel), List.mem_of_getElem? (i := 728) (by decide +kernel)⟩
theorem lw_p18 : lw_okq (⟨"BoxofficeRow$ExchangeChain", "shortenSteps", "()V"⟩, 6) := ⟨⟨by decide +kernel, by decide +kernel⟩, List.mem_of_getElem? (i := 114) (by decide +kernel), List.mem_of_getElem? (i := 733) (by decide +kernel), List.mem_of_getElem? (i := 734) (by decide +kernel)⟩
theorem lw_p19 : lw_okq (⟨"BoxofficeRow$ExchangeChain", "takesPart", "(I)Z"⟩, 6) := ⟨⟨by decide +kernel, by decide +kernel⟩, List.mem_of_getElem? (i := 114) (by decide +kernel), List.mem_of_getElem? (i := 738) (by decide +kernel), List.mem_of_getElem? (i := 739) (by decide +kernel)⟩
theorem lw_p20 : lw_okq (⟨"BoxofficeRow$ExchangeChain", "stepsOf", "(I)I"⟩, 6) := ⟨⟨by decide +kernel, by decide +kernel⟩, List.mem_of_getElem? (i := 114) (by decide +kernel), List.mem_of_getElem? (i := 744) (by decide +kernel), List.mem_of_getElem? (i := 745) (by decide +kernel)⟩
theorem lw_p21 : lw_okq (⟨"BoxofficeRow$ExchangeChain", "collect", "(II)V"⟩, 6) := ⟨⟨by decide +kernel, by decide +kernel⟩, List.mem_of_getElem? (i := 114) (by decide +kernel), List.mem_of_getElem? (i := 749) (by decide +kernel), List.mem_of_getElem? (i := 750) (by decide +kernel)⟩
theorem lw_p22 : lw_okq (⟨"BoxofficeRow$ExchangeChain", "lowestIn", "(II)I"⟩, 6) := ⟨⟨by decide +kernel, by decide +kernel⟩, List.mem_of_getElem? (i := 114) (by decide +kernel), List.mem_of_getElem? (i := 753) (by decide +kernel), List.mem_of_getElem? (i := 754) (by decide +kernel)⟩
theorem lw_p23 : lw_okq (⟨"BoxofficeRow$ExchangeChain", "move", "(III)V"⟩, 6) := ⟨⟨by decide +kernel, by decide +kernel⟩, List.mem_of_getElem? (i := 114) (by decide +kernel), List.mem_of_getElem? (i := 767) (by decide +kernel), List.mem_of_getElem? (i := 768) (by decide +kernel)⟩
theorem lw_p24 : lw_okq (⟨"BoxofficeRowModel", "holds", "(I)Z"⟩, 19) := ⟨⟨by decide +kernel, by decide +kernel⟩, List.mem_of_getElem? (i := 773) (by decide +kernel), List.mem_of_getElem? (i := 848) (by decide +kernel), List.mem_of_getElem? (i := 849) (by decide +kernel)⟩
theorem lw_p25 : lw_okq (⟨"BoxofficeRowModel", "isSeat", "(II)Z"⟩, 19) := ⟨⟨by decide +kernel, by decide +kernel⟩, List.mem_of_getElem? (i := 773) (by decide +kernel), List.mem_of_getElem? (i := 856) (by decide +kernel), List.mem_of_getElem? (i := 857) (by decide +kernel)⟩
theorem lw_p26 : lw_okq (⟨"BoxofficeRowModel", "isRow", "(I)Z"⟩, 19) := ⟨⟨by decide +kernel, by decide +kernel⟩, List.mem_of_getElem? (i := 773) (by decide +kernel), List.mem_of_getElem? (i := 860) (by decide +kernel), List.mem_of_getElem? (i := 861) (by decide +kernel)⟩
theorem lw_p27 : lw_okq (⟨"BoxofficeRowModel", "worth", "(II)I"⟩, 19) := ⟨⟨by decide +kernel, by decide +kernel⟩, List.mem_of_getElem? (i := 773) (by decide +kernel), List.mem_of_getElem? (i := 880) (by decide +kernel), List.mem_of_getElem? (i := 881) (by decide +kernel)⟩
theorem lw_p28 : lw_okq (⟨"BoxofficeRowModel", "frees", "(I)I"⟩, 19) := ⟨⟨by decide +kernel, by decide +kernel⟩, List.mem_of_getElem? (i := 773) (by decide +kernel), List.mem_of_getElem? (i := 888) (by decide +kernel), List.mem_of_getElem? (i := 889) (by decide +kernel)⟩
theorem lw_p29 : lw_okq (⟨"BoxofficeRowModel", "isFree", "(II)Z"⟩, 19) := ⟨⟨by decide +kernel, by decide +kernel⟩, List.mem_of_getElem? (i := 773) (by decide +kernel), List.mem_of_getElem? (i := 892) (by decide +kernel), List.mem_of_getElem? (i := 893) (by decide +kernel)⟩
theorem lw_p30 : lw_okq (⟨"BoxofficeRowModel", "run", "(II)I"⟩, 19) := ⟨⟨by decide +kernel, by decide +kernel⟩, List.mem_of_getElem? (i := 773) (by decide +kernel), List.mem_of_getElem? (i := 904) (by decide +kernel), List.mem_of_getElem? (i := 905) (by decide +kernel)⟩
theorem lw_p31 : lw_okq (⟨"BoxofficeRowModel", "best", "(I)I"⟩, 19) := ⟨⟨by decide +kernel, by decide +kernel⟩, List.mem_of_getElem? (i := 773) (by decide +kernel), List.mem_of_getElem? (i := 912) (by decide +kernel), List.mem_of_getElem? (i := 913) (by decide +kernel)⟩
def lw_privs_2 : List (MethodName × Nat) := [(⟨"BoxofficeRow", "closeTicket", "(II)V"⟩, 6), (⟨"BoxofficeRow$ExchangeChain", "markEnds", "(I)V"⟩, 6), (⟨"BoxofficeRow$ExchangeChain", "shortenSteps", "()V"⟩, 6), (⟨"BoxofficeRow$ExchangeChain", "takesPart", "(I)Z"⟩, 6), (⟨"BoxofficeRow$ExchangeChain", "stepsOf", "(I)I"⟩, 6), (⟨"BoxofficeRow$ExchangeChain", "collect", "(II)V"⟩, 6), (⟨"BoxofficeRow$ExchangeChain", "lowestIn", "(II)I"⟩, 6), (⟨"BoxofficeRow$ExchangeChain", "move", "(III)V"⟩, 6), (⟨"BoxofficeRowModel", "holds", "(I)Z"⟩, 19), (⟨"BoxofficeRowModel", "isSeat", "(II)Z"⟩, 19), (⟨"BoxofficeRowModel", "isRow", "(I)Z"⟩, 19), (⟨"BoxofficeRowModel", "worth", "(II)I"⟩, 19), (⟨"BoxofficeRowModel", "frees", "(I)I"⟩, 19), (⟨"BoxofficeRowModel", "isFree", "(II)Z"⟩, 19), (⟨"BoxofficeRowModel", "run", "(II)I"⟩, 19), (⟨"BoxofficeRowModel", "best", "(I)I"⟩, 19)]
theorem lw_r2 : ∀ q ∈ lw_privs_2, lw_okq q := List.forall_mem_cons.mpr ⟨lw_p16, List.forall_mem_cons.mpr ⟨lw_p17, List.forall_mem_cons.mpr ⟨lw_p18, List.forall_mem_cons.mpr ⟨lw_p19, List.forall_mem_cons.mpr ⟨lw_p20, List.forall_mem_cons.mpr ⟨lw_p21, List.forall_mem_cons.mpr ⟨lw_p22, List.forall_mem_cons.mpr ⟨lw_p23, List.forall_mem_cons.mpr ⟨lw_p24, List.forall_mem_cons.mpr ⟨lw_p25, List.forall_mem_cons.mpr ⟨lw_p26, List.forall_mem_cons.mpr ⟨lw_p27, List.forall_mem_cons.mpr ⟨lw_p28, List.forall_mem_cons.mpr ⟨lw_p29, List.forall_mem_cons.mpr ⟨lw_p30, List.forall_mem_cons.mpr ⟨lw_p31, fun _ h => absurd h List.not_mem_nil⟩⟩⟩⟩⟩⟩⟩⟩⟩⟩⟩⟩⟩⟩⟩⟩
theorem lw_p32 : lw_okq (⟨"BoxofficeRowModel", "bestOf", "(IZ)I"⟩, 19) := ⟨⟨by decide +kernel, by decide +kernel⟩, List.mem_of_getElem? (i := 773) (by decide +kernel), List.mem_of_getElem? (i := 916) (by decide +kernel), List.mem_of_getElem? (i := 917) (by decide +kernel)⟩
theorem lw_p33 : lw_okq (⟨"BoxofficeRowModel", "firstIn", "(IIZ)I"⟩, 19) := ⟨⟨by decide +kernel, by decide +kernel⟩, List.mem_of_getElem? (i := 773) (by decide +kernel), List.mem_of_getElem? (i := 920) (by decide +kernel), List.mem_of_getElem? (i := 921) (by decide +kernel)⟩
theorem lw_p34 : lw_okq (⟨"BoxofficeRowModel", "hasOrphan", "(III)Z"⟩, 19) := ⟨⟨by decide +kernel, by decide +kernel⟩, List.mem_of_getElem? (i := 773) (by decide +kernel), List.mem_of_getElem? (i := 924) (by decide +kernel), List.mem_of_getElem? (i := 925) (by decide +kernel)⟩
theorem lw_p35 : lw_okq (⟨"BoxofficeRowModel", "sum", "(III)I"⟩, 19) := ⟨⟨by decide +kernel, by decide +kernel⟩, List.mem_of_getElem? (i := 773) (by decide +kernel), List.mem_of_getElem? (i := 928) (by decide +kernel), List.mem_of_getElem? (i := 929) (by decide +kernel)⟩
theorem lw_p36 : lw_okq (⟨"BoxofficeRowModel", "grants", "(I)I"⟩, 19) := ⟨⟨by decide +kernel, by decide +kernel⟩, List.mem_of_getElem? (i := 773) (by decide +kernel), List.mem_of_getElem? (i := 943) (by decide +kernel), List.mem_of_getElem? (i := 944) (by decide +kernel)⟩
theorem lw_p37 : lw_okq (⟨"BoxofficeRowModel", "owns", "(IIII)V"⟩, 19) := ⟨⟨by decide +kernel, by decide +kernel⟩, List.mem_of_getElem? (i := 773) (by decide +kernel), List.mem_of_getElem? (i := 947) (by decide +kernel), List.mem_of_getElem? (i := 948) (by decide +kernel)⟩
theorem lw_p38 : lw_okq (⟨"BoxofficeRowModel", "splits", "(I)I"⟩, 19) := ⟨⟨by decide +kernel, by decide +kernel⟩, List.mem_of_getElem? (i := 773) (by decide +kernel), List.mem_of_getElem? (i := 962) (by decide +kernel), List.mem_of_getElem? (i := 963) (by decide +kernel)⟩
theorem lw_p39 : lw_okq (⟨"BoxofficeRowModel", "laysSplits", "()V"⟩, 19) := ⟨⟨by decide +kernel, by decide +kernel⟩, List.mem_of_getElem? (i := 773) (by decide +kernel), List.mem_of_getElem? (i := 966) (by decide +kernel), List.mem_of_getElem? (i := 967) (by decide +kernel)⟩
theorem lw_p40 : lw_okq (⟨"BoxofficeRowModel", "laysSeats", "(II)V"⟩, 19) := ⟨⟨by decide +kernel, by decide +kernel⟩, List.mem_of_getElem? (i := 773) (by decide +kernel), List.mem_of_getElem? (i := 974) (by decide +kernel), List.mem_of_getElem? (i := 975) (by decide +kernel)⟩
theorem lw_p41 : lw_okq (⟨"BoxofficeRowModel", "given", "(IIII)I"⟩, 19) := ⟨⟨by decide +kernel, by decide +kernel⟩, List.mem_of_getElem? (i := 773) (by decide +kernel), List.mem_of_getElem? (i := 978) (by decide +kernel), List.mem_of_getElem? (i := 979) (by decide +kernel)⟩
theorem lw_p42 : lw_okq (⟨"BoxofficeRowModel", "isTicket", "(I)Z"⟩, 19) := ⟨⟨by decide +kernel, by decide +kernel⟩, List.mem_of_getElem? (i := 773) (by decide +kernel), List.mem_of_getElem? (i := 998) (by decide +kernel), List.mem_of_getElem? (i := 999) (by decide +kernel)⟩
theorem lw_p43 : lw_okq (⟨"BoxofficeRowModel", "many", "(I)I"⟩, 19) := ⟨⟨by decide +kernel, by decide +kernel⟩, List.mem_of_getElem? (i := 773) (by decide +kernel), List.mem_of_getElem? (i := 1006) (by decide +kernel), List.mem_of_getElem? (i := 1007) (by decide +kernel)⟩
theorem lw_p44 : lw_okq (⟨"BoxofficeRowModel", "priced", "(I)I"⟩, 19) := ⟨⟨by decide +kernel, by decide +kernel⟩, List.mem_of_getElem? (i := 773) (by decide +kernel), List.mem_of_getElem? (i := 1014) (by decide +kernel), List.mem_of_getElem? (i := 1015) (by decide +kernel)⟩
theorem lw_p45 : lw_okq (⟨"BoxofficeRowModel", "closes", "(II)V"⟩, 19) := ⟨⟨by decide +kernel, by decide +kernel⟩, List.mem_of_getElem? (i := 773) (by decide +kernel), List.mem_of_getElem? (i := 1030) (by decide +kernel), List.mem_of_getElem? (i := 1031) (by decide +kernel)⟩
theorem lw_p46 : lw_okq (⟨"BoxofficeRowModel", "mayWish", "(II)Z"⟩, 19) := ⟨⟨by decide +kernel, by decide +kernel⟩, List.mem_of_getElem? (i := 773) (by decide +kernel), List.mem_of_getElem? (i := 1054) (by decide +kernel), List.mem_of_getElem? (i := 1055) (by decide +kernel)⟩
theorem lw_p47 : lw_okq (⟨"BoxofficeRowModel", "firstOf", "(I)I"⟩, 19) := ⟨⟨by decide +kernel, by decide +kernel⟩, List.mem_of_getElem? (i := 773) (by decide +kernel), List.mem_of_getElem? (i := 1058) (by decide +kernel), List.mem_of_getElem? (i := 1059) (by decide +kernel)⟩
def lw_privs_3 : List (MethodName × Nat) := [(⟨"BoxofficeRowModel", "bestOf", "(IZ)I"⟩, 19), (⟨"BoxofficeRowModel", "firstIn", "(IIZ)I"⟩, 19), (⟨"BoxofficeRowModel", "hasOrphan", "(III)Z"⟩, 19), (⟨"BoxofficeRowModel", "sum", "(III)I"⟩, 19), (⟨"BoxofficeRowModel", "grants", "(I)I"⟩, 19), (⟨"BoxofficeRowModel", "owns", "(IIII)V"⟩, 19), (⟨"BoxofficeRowModel", "splits", "(I)I"⟩, 19), (⟨"BoxofficeRowModel", "laysSplits", "()V"⟩, 19), (⟨"BoxofficeRowModel", "laysSeats", "(II)V"⟩, 19), (⟨"BoxofficeRowModel", "given", "(IIII)I"⟩, 19), (⟨"BoxofficeRowModel", "isTicket", "(I)Z"⟩, 19), (⟨"BoxofficeRowModel", "many", "(I)I"⟩, 19), (⟨"BoxofficeRowModel", "priced", "(I)I"⟩, 19), (⟨"BoxofficeRowModel", "closes", "(II)V"⟩, 19), (⟨"BoxofficeRowModel", "mayWish", "(II)Z"⟩, 19), (⟨"BoxofficeRowModel", "firstOf", "(I)I"⟩, 19)]
theorem lw_r3 : ∀ q ∈ lw_privs_3, lw_okq q := List.forall_mem_cons.mpr ⟨lw_p32, List.forall_mem_cons.mpr ⟨lw_p33, List.forall_mem_cons.mpr ⟨lw_p34, List.forall_mem_cons.mpr ⟨lw_p35, List.forall_mem_cons.mpr ⟨lw_p36, List.forall_mem_cons.mpr ⟨lw_p37, List.forall_mem_cons.mpr ⟨lw_p38, List.forall_mem_cons.mpr ⟨lw_p39, List.forall_mem_cons.mpr ⟨lw_p40, List.forall_mem_cons.mpr ⟨lw_p41, List.forall_mem_cons.mpr ⟨lw_p42, List.forall_mem_cons.mpr ⟨lw_p43, List.forall_mem_cons.mpr ⟨lw_p44, List.forall_mem_cons.mpr ⟨lw_p45, List.forall_mem_cons.mpr ⟨lw_p46, List.forall_mem_cons.mpr ⟨lw_p47, fun _ h => absurd h List.not_mem_nil⟩⟩⟩⟩⟩⟩⟩⟩⟩⟩⟩⟩⟩⟩⟩⟩
theorem lw_p48 : lw_okq (⟨"BoxofficeRowModel", "lastOf", "(I)I"⟩, 19) := ⟨⟨by decide +kernel, by decide +kernel⟩, List.mem_of_getElem? (i := 773) (by decide +kernel), List.mem_of_getElem? (i := 1062) (by decide +kernel), List.mem_of_getElem? (i := 1063) (by decide +kernel)⟩
theorem lw_p49 : lw_okq (⟨"BoxofficeRowModel", "hasWish", "(I)Z"⟩, 19) := ⟨⟨by decide +kernel, by decide +kernel⟩, List.mem_of_getElem? (i := 773) (by decide +kernel), List.mem_of_getElem? (i := 1070) (by decide +kernel), List.mem_of_getElem? (i := 1071) (by decide +kernel)⟩
theorem lw_p50 : lw_okq (⟨"BoxofficeRowModel", "laysFar", "(II)V"⟩, 19) := ⟨⟨by decide +kernel, by decide +kernel⟩, List.mem_of_getElem? (i := 773) (by decide +kernel), List.mem_of_getElem? (i := 1074) (by decide +kernel), List.mem_of_getElem? (i := 1075) (by decide +kernel)⟩
theorem lw_p51 : lw_okq (⟨"BoxofficeRowModel", "follows", "(II)Z"⟩, 19) := ⟨⟨by decide +kernel, by decide +kernel⟩, List.mem_of_getElem? (i := 773) (by decide +kernel), List.mem_of_getElem? (i := 1078) (by decide +kernel), List.mem_of_getElem? (i := 1079) (by decide +kernel)⟩
theorem lw_p52 : lw_okq (⟨"BoxofficeRowModel", "changes", "(II)V"⟩, 19) := ⟨⟨by decide +kernel, by decide +kernel⟩, List.mem_of_getElem? (i := 773) (by decide +kernel), List.mem_of_getElem? (i := 1082) (by decide +kernel), List.mem_of_getElem? (i := 1083) (by decide +kernel)⟩
def lw_privs_4 : List (MethodName × Nat) := [(⟨"BoxofficeRowModel", "lastOf", "(I)I"⟩, 19), (⟨"BoxofficeRowModel", "hasWish", "(I)Z"⟩, 19), (⟨"BoxofficeRowModel", "laysFar", "(II)V"⟩, 19), (⟨"BoxofficeRowModel", "follows", "(II)Z"⟩, 19), (⟨"BoxofficeRowModel", "changes", "(II)V"⟩, 19)]
theorem lw_r4 : ∀ q ∈ lw_privs_4, lw_okq q := List.forall_mem_cons.mpr ⟨lw_p48, List.forall_mem_cons.mpr ⟨lw_p49, List.forall_mem_cons.mpr ⟨lw_p50, List.forall_mem_cons.mpr ⟨lw_p51, List.forall_mem_cons.mpr ⟨lw_p52, fun _ h => absurd h List.not_mem_nil⟩⟩⟩⟩⟩
def lw_privs : List (MethodName × Nat) := lw_privs_1 ++ (lw_privs_2 ++ (lw_privs_3 ++ (lw_privs_4)))
def lw_tbl : List Cond := k2_sels lw_privs ++ tables_1
theorem lw_privs_ok : ∀ q ∈ lw_privs, lw_okq q := by
  show ∀ q ∈ lw_privs_1 ++ (lw_privs_2 ++ (lw_privs_3 ++ (lw_privs_4))), lw_okq q
  exact List.forall_mem_append.mpr ⟨lw_r1, List.forall_mem_append.mpr ⟨lw_r2, List.forall_mem_append.mpr ⟨lw_r3, lw_r4⟩⟩⟩
-- ===== end of PART A; then your names; then what follows =====
end
section
/-! ===== BEGIN words of one list among another's, by their places ===== -/
theorem goodIn_r {big : List Cond} (ws : List Cond) (ps : List Nat) (hp : ws = ps.filterMap (fun i => big[i]?)) (h : ws.all goodWord = true) : GoodIn big ws := by
  intro w hw
  have h1 := List.all_eq_true.mp h w hw
  rw [hp] at hw
  obtain ⟨i, -, hi⟩ := List.mem_filterMap.mp hw
  have hm : w ∈ big := by first | exact List.mem_of_getElem? hi | exact List.getElem?_mem hi
  exact ⟨hm, good_of_word h1⟩
theorem goodIn_app {big a b : List Cond} (ha : GoodIn big a) (hb : GoodIn big b) : GoodIn big (a ++ b) := fun w h => (List.mem_append.mp h).elim (ha w) (hb w)
theorem goodIn_ca {big a b : List Cond} {c : Cond} (ha : GoodIn big (c :: a)) (hb : GoodIn big b) : GoodIn big (c :: (a ++ b)) := fun w h => (List.mem_cons.mp h).elim (fun e => ha w (List.mem_cons.mpr (Or.inl e))) (fun h => (List.mem_append.mp h).elim (fun h => ha w (List.mem_cons.mpr (Or.inr h))) (hb w))
theorem goodIn_sub {big ws : List Cond} (hm : ∀ w ∈ ws, w ∈ big) (h : ws.all goodWord = true) : GoodIn big ws := fun w hw => ⟨hm w hw, good_of_word (List.all_eq_true.mp h w hw)⟩
/-! ===== END ===== -/

/-! ===== BEGIN new T[n][m]: the outer array a place, the inner ones among the pooled ===== -/
/-- f, but v at every address of l -/
def vr_up {α : Type} (f : Nat → α) (l : List Nat) (v : α) : Nat → α := fun a => if a ∈ l then v else f a
theorem vr_up_in {α : Type} {f : Nat → α} {l : List Nat} {v : α} {a : Nat} (h : a ∈ l) : vr_up f l v a = v := if_pos h
theorem vr_up_ne {α : Type} {f : Nat → α} {l : List Nat} {v : α} {a : Nat} (h : a ∉ l) : vr_up f l v a = f a := if_neg h
theorem vr_rows {L l : List Nat} {f : Nat → va_E} {e : va_E} (h : ∀ a, a ∈ l → a ∉ L) : va_pl L f ++ l.map (fun a => (a, e)) = va_pl (L ++ l) (vr_up f l e) := by
  unfold va_pl
  rw [List.map_append]
  congr 1
  · apply List.map_congr_left
    intro a ha
    rw [vr_up_ne (fun q => h a q ha)]
  · apply List.map_congr_left
    intro a ha
    rw [vr_up_in ha]
theorem vr_lay {X rows : va_W} {x : Nat × va_E} {pl : va_W} {D : va_G} {cl : List vw_C} {H : Heap} (hP : va_P D cl (((X ++ pl) ++ [x]) ++ rows) H) : va_P D cl ((X ++ [x]) ++ (pl ++ rows)) H := by
  rw [List.append_assoc (X ++ pl)] at hP
  have h := va_P.swap hP
  rw [← List.append_assoc X] at h
  have h2 := va_P.swap h
  rw [List.append_assoc (X ++ [x])] at h2
  exact h2
theorem vr_layD {X rows : va_W} {x : Nat × va_E} {pl : va_W} {A : Nat → Prop} (hD : va_D A (((X ++ pl) ++ [x]) ++ rows)) : va_D A ((X ++ [x]) ++ (pl ++ rows)) := by
  rw [List.append_assoc (X ++ pl)] at hD
  have h := va_D.swap hD
  rw [← List.append_assoc X] at h
  have h2 := va_D.swap h
  rw [List.append_assoc (X ++ [x])] at h2
  exact h2
theorem vr_outer (c : ClassId) (N h0 : Nat) : ∀ i : Nat, Jvm.Free.Multi.outerC c N h0 i = arrV c N (fun j => va_rf (if j < i then some (h0 + 1 + j) else none))
  | 0 => by
    show ({ cls := c, slots := Array.replicate N .null, vm := .none } : Cell) = _
    rw [arrV_new]
    refine congrArg (arrV c N) (funext fun j => ?_)
    simp [va_rf]
  | i + 1 => by
    show (Jvm.Free.Multi.outerC c N h0 i).setSlot i (.ref (h0 + 1 + i)) = _
    rw [vr_outer c N h0 i, arrV_store]
    refine congrArg (arrV c N) (funext fun j => ?_)
    by_cases e : j = i
    · subst e
      simp [updV, va_rf]
    · by_cases h : j < i
      · simp [updV, e, h, Nat.lt_succ_of_lt h]
      · simp [updV, e, h, show ¬ j < i + 1 by omega]
section VGM
variable {p : Program} {l : Launch} {e : Env} {R : Room} {s : State} {m : MethodId} {args : Array Value} {below : List Frame} {meth : Method} {c : Code} {H : Heap} {locs : List Loc} {cells slots : Nat} {Q : State → Prop}
variable {cc : ByteArray} {pc : Nat} {ls : Array Slot} {rest : List Value} {D : va_G} {cl : List vw_C} {A : Nat → Prop} {a : Nat} {tys : List (ClassId × FieldType)} {ws : va_W} {H0 : Heap}
theorem va_mna {X : va_W} {L : List Nat} {f : Nat → va_E} {cc : ByteArray} (hexec : p.tables.exec = Jvm.exec) (hb : c.code = cc) {own : String} {index : Nat} {ty : FieldType} {cy : ClassId} (hown : s.vm.findClass own = some m.cls) (hclink : (Cond.classLink own index ("[" ++ (FieldType.array ty).toString)).before args s = true) (hover : (Cond.arrayOver (.array ty)).before args s = true) (harr : (Cond.arrayClass ty).before args s = true) (hcy : s.vm.findClass (FieldType.array ty).toString = some cy)
    (hK : va_K D cl tys s) (hP : va_P D cl (X ++ va_pl L f) H) (hD : va_D A (X ++ va_pl L f)) (hS : va_S A H0 H locs) (hA : ∀ q, H0.size ≤ q → A q) {n k : Int32} {N' K' : Nat} {z : vp_A} (hn : ¬ n < 0) (hk : ¬ k < 0) (hN : n.toNatClampNeg = N') (hM : k.toNatClampNeg = K')
    (hb1 : N' * 4 ≤ 536870912) (hb2 : K' * componentBytes ty ≤ 536870912) (hb3 : K' ≤ 536870912) (hdf : fits ty (defaultValue ty) = true) (hdd : (defaultValue ty).isDefault = true) (hcells : cells + (1 + N') ≤ R.cells) (hslots : slots + (N' + N' * K') ≤ R.slots) (hz : ∀ c : ClassId, Jvm.Free.Multi.innerC c K' (defaultValue ty) = vp_cell c z) (hdg : decode cc pc = .ok (.multianewarray index 2, 4))
    (kk : ∀ (q : Nat) (r : Nat → Nat) (cA : ClassId) (H1 : Heap), (∀ i j : Nat, i < N' → j < N' → r i = r j → i = j) → (∀ i : Nat, i < N' → r i ∉ L) → va_K D cl (tys ++ [(cA, .array ty)]) s →
      va_P D cl ((X ++ [(q, .inl (cA, N', .inr (.inr (.inr (.inr (fun i => if i < N' then some (r i) else none))))))]) ++ va_pl (L ++ (List.range N').map r) (vr_up f ((List.range N').map r) (.inl (cy, z)))) H1 → va_D A ((X ++ [(q, .inl (cA, N', .inr (.inr (.inr (.inr (fun i => if i < N' then some (r i) else none))))))]) ++ va_pl (L ++ (List.range N').map r) (vr_up f ((List.range N').map r) (.inl (cy, z)))) → va_S A H0 H1 locs →
      W p l e R s m args below meth c H1 locs (cells + 1 + N') (slots + N' + N' * K') Q (F0 m (pc + 4) ls (.ref q :: rest))) : W p l e R s m args below meth c H locs cells slots Q (F0 m pc ls (.int k :: .int n :: rest)) := by
  subst hN
  subst hM
  intro T hT Xs
  obtain ⟨vm₁, cA, comp, -, fA, fC, hO, -, X', step⟩ := Xs.multianewarray2F hexec hown hclink hover harr (g := F0 m pc ls (.int k :: .int n :: rest)) rfl (by rw [hb]; exact hdg) rfl hn hk hb1 hb2 hb3 hdf hdd hcells hslots
  have ec : some cy = some comp := hcy.symm.trans fC
  cases ec
  generalize hF : Jvm.Free.Multi.fill (T.setVm vm₁) cA cy n.toNatClampNeg k.toNatClampNeg (defaultValue ty) n.toNatClampNeg = F at X' step
  have hTh : (T.setVm vm₁).heap = H := hT
  obtain ⟨f1, f2, -, -⟩ := Jvm.Free.Multi.fill_facts (T.setVm vm₁) cA cy n.toNatClampNeg k.toNatClampNeg (defaultValue ty) n.toNatClampNeg
  rw [hF, hTh] at f1 f2
  have hold : ∀ x : Nat, x < H.size → F.heap[x]? = H[x]? := fun x hx => by
    have := Jvm.Free.Multi.fill_old (T.setVm vm₁) cA cy n.toNatClampNeg k.toNatClampNeg (defaultValue ty) (a := x) (by rw [hTh]; exact hx) n.toNatClampNeg
    rw [hF, hTh] at this
    exact this
  have hrow : ∀ j : Nat, j < n.toNatClampNeg → F.heap[H.size + 1 + j]? = some (vp_cell cy z) := fun j hj => by
    have := Jvm.Free.Multi.fill_inner (T.setVm vm₁) cA cy n.toNatClampNeg k.toNatClampNeg (defaultValue ty) n.toNatClampNeg j hj
    rw [hF, hTh, hz] at this
    exact this
  have hout : Jvm.Free.Multi.outerC cA n.toNatClampNeg H.size n.toNatClampNeg = vp_cell cA (n.toNatClampNeg, .inr (.inr (.inr (.inr (fun i => if i < n.toNatClampNeg then some (H.size + 1 + i) else none))))) := by
    rw [vp_cell_q]
    exact vr_outer cA n.toNatClampNeg H.size n.toNatClampNeg
  rw [hout] at f2
  have hlt : ∀ a, a ∈ L → a < H.size := fun a ha => by
    obtain ⟨k9, hk9⟩ := va_pl_get (X := X) (f := f) ha
    exact (hP k9 _ hk9).lt
  have hnl : ∀ i : Nat, i < n.toNatClampNeg → H.size + 1 + i ∉ L := fun i _ h => by
    have := hlt _ h
    omega
  have hnm : ∀ a, a ∈ (List.range n.toNatClampNeg).map (fun i => H.size + 1 + i) → a ∉ L := fun a ha h => by
    obtain ⟨i, -, rfl⟩ := List.mem_map.mp ha
    have := hlt _ h
    omega
  have hP0 : va_P D cl (X ++ va_pl L f) F.heap := hP.kept (fun k9 x hx => hold x.1 ((hP k9 x hx).lt))
  have hP1 : va_P D cl ((X ++ va_pl L f) ++ [(H.size, .inl (cA, n.toNatClampNeg, .inr (.inr (.inr (.inr (fun i => if i < n.toNatClampNeg then some (H.size + 1 + i) else none))))))]) F.heap := hP0.app (fun k9 x hx => by
    have h0 : k9 < 1 := (List.getElem?_eq_some_iff.mp hx).1
    rw [show k9 = 0 by omega] at hx
    cases hx
    exact f2)
  have hP2 : va_P D cl (((X ++ va_pl L f) ++ [(H.size, .inl (cA, n.toNatClampNeg, .inr (.inr (.inr (.inr (fun i => if i < n.toNatClampNeg then some (H.size + 1 + i) else none))))))]) ++ ((List.range n.toNatClampNeg).map (fun i => H.size + 1 + i)).map (fun a => (a, .inl (cy, z)))) F.heap := hP1.app (fun k9 x hx => by
    obtain ⟨a, ha, rfl⟩ := List.mem_map.mp (List.mem_of_getElem? hx)
    obtain ⟨i, hi, rfl⟩ := List.mem_map.mp ha
    exact hrow i (List.mem_range.mp hi))
  have hD2 : va_D A (((X ++ va_pl L f) ++ [(H.size, .inl (cA, n.toNatClampNeg, .inr (.inr (.inr (.inr (fun i => if i < n.toNatClampNeg then some (H.size + 1 + i) else none))))))]) ++ ((List.range n.toNatClampNeg).map (fun i => H.size + 1 + i)).map (fun a => (a, .inl (cy, z)))) := by
    have hD1 := hD.push (e := .inl (cA, n.toNatClampNeg, .inr (.inr (.inr (.inr (fun i => if i < n.toNatClampNeg then some (H.size + 1 + i) else none)))))) hP rfl (hA _ hS.1)
    generalize hW1 : (X ++ va_pl L f) ++ [(H.size, .inl (cA, n.toNatClampNeg, .inr (.inr (.inr (.inr (fun i => if i < n.toNatClampNeg then some (H.size + 1 + i) else none))))))] = W1 at hD1 hP1 ⊢
    have hle : ∀ (k9 : Nat) (x : Nat × va_E), W1[k9]? = some x → x.1 ≤ H.size := fun k9 x hx => by
      rw [← hW1] at hx
      by_cases hl : k9 < (X ++ va_pl L f).length
      · rw [List.getElem?_append_left hl] at hx
        exact Nat.le_of_lt ((hP k9 x hx).lt)
      · rw [List.getElem?_append_right (by omega)] at hx
        have h0 : k9 - (X ++ va_pl L f).length < 1 := (List.getElem?_eq_some_iff.mp hx).1
        rw [show k9 - (X ++ va_pl L f).length = 0 by omega] at hx
        cases hx
        exact Nat.le_refl _
    have hr : ∀ (k9 : Nat) (x : Nat × va_E), (((List.range n.toNatClampNeg).map (fun i => H.size + 1 + i)).map (fun a => ((a, .inl (cy, z)) : Nat × va_E)))[k9]? = some x → x.1 = H.size + 1 + k9 := fun k9 x hx => by
      rw [List.getElem?_map, List.getElem?_map] at hx
      by_cases h9 : k9 < n.toNatClampNeg
      · rw [List.getElem?_range h9] at hx
        cases hx
        rfl
      · have hn0 : (List.range n.toNatClampNeg)[k9]? = none := List.getElem?_eq_none (by rw [List.length_range]; omega)
        rw [hn0] at hx
        cases hx
    refine ⟨fun i j x y hi hj hxy => ?_, fun k9 x hx => ?_⟩
    · by_cases h1 : i < W1.length <;> by_cases h2 : j < W1.length
      · rw [List.getElem?_append_left h1] at hi
        rw [List.getElem?_append_left h2] at hj
        exact hD1.1 i j x y hi hj hxy
      · rw [List.getElem?_append_left h1] at hi
        rw [List.getElem?_append_right (by omega)] at hj
        have := hle _ _ hi
        have := hr _ _ hj
        omega
      · rw [List.getElem?_append_right (by omega)] at hi
        rw [List.getElem?_append_left h2] at hj
        have := hle _ _ hj
        have := hr _ _ hi
        omega
      · rw [List.getElem?_append_right (by omega)] at hi hj
        have := hr _ _ hi
        have := hr _ _ hj
        omega
    · by_cases h1 : k9 < W1.length
      · rw [List.getElem?_append_left h1] at hx
        exact hD1.2 k9 x hx
      · rw [List.getElem?_append_right (by omega)] at hx
        have := hr _ _ hx
        exact hA _ (by have := hS.1; omega)
  have hAr : ArrOfT s cA (.array ty) := fun N9 z9 => by
    obtain ⟨-, k9, hk9, cm9, hkk9⟩ := (hO 0 0 0).1
    exact ⟨(fun q hq => by cases hq), k9, hk9, cm9, hkk9⟩
  have hK2 : va_K D cl (tys ++ [(cA, .array ty)]) s := ⟨hK.1, fun k9 x hx => by
    by_cases hl : k9 < tys.length
    · rw [List.getElem?_append_left hl] at hx
      exact hK.2 k9 x hx
    · rw [List.getElem?_append_right (by omega)] at hx
      have h0 : k9 - tys.length < 1 := (List.getElem?_eq_some_iff.mp hx).1
      rw [show k9 - tys.length = 0 by omega] at hx
      cases hx
      exact ⟨hAr, fA⟩⟩
  obtain ⟨t, a1, b1⟩ := kk H.size (fun i => H.size + 1 + i) cA F.heap (fun i j _ _ h => by have h9 : H.size + 1 + i = H.size + 1 + j := h; omega) hnl hK2 (by rw [← vr_rows hnm]; exact vr_lay hP2) (by rw [← vr_rows hnm]; exact vr_layD hD2) ⟨by rw [f1]; have := hS.1; omega, fun x h1 h2 => (hold x (Nat.lt_of_lt_of_le h1 hS.1)).trans (hS.2.1 x h1 h2), hS.2.2⟩ F rfl X'
  refine ⟨t, step t ?_, b1⟩
  have e : T.heap.size = H.size := by rw [hT]
  rw [e]
  exact a1
end VGM
/-! ===== END ===== -/

/-! ===== BEGIN exceptions that leave a method, and their catching by the caller (launches without stack traces) ===== -/
section VXA
/-! The laws vx_back, vx_callV, vx_callS, vx_callSW, vx_throw0, vx_throwS follow proofs of the library, with one case more: JvmDerived/Free/Laws.lean (Back.of_free), Shelf42/LK1.lean (callV, callS), Shelf/KitTraced.lean (throwNew0V, throwNewS). -/
/-- where a method has thrown q: the class by its name, the cell, what was written, the world -/
def vx_T (XC : String → State → State → Prop) (st : State) (q : Addr) (t : State) (mc ms : Nat) (free : Addr → Prop) : Prop :=
  ∃ (E : String) (ce : Cell) (L : List Loc), XC E st t ∧ t.heap[q]? = some ce ∧ ce.vm = .none ∧ st.vm.findClass E = some ce.cls ∧ st.WarmedH t.vm ∧ st.sameButNew ({ t with vm := st.vm } : State) L mc ms ∧ ∀ z ∈ L, free z.base
def vx_Q (Qc : Array Value → State → Outcome → State → Prop) (XC : String → State → State → Prop) (mc ms : Nat) (free : Addr → Prop) : Array Value → State → Outcome → State → Prop := fun a st o t =>
  (Qc a st o t ∧ ∃ L, FrameEnd st o t L mc ms ∧ ∀ q ∈ L, free q.base) ∨ ∃ q, o = .threw q ∧ vx_T XC st q t mc ms free
/-- a callee that returns or throws -/
def vx_Met (l : Launch) (y : MethodName) (ws : List Cond) (rm : Room) (Pc : Array Value → State → Prop) (Qc : Array Value → State → Outcome → State → Prop) (XC : String → State → State → Prop) (mc ms : Nat) (free : Addr → Prop) : Prop :=
  MetFree l y (headSpec ws rm) Pc (fun _ _ _ _ _ => True) (vx_Q Qc XC mc ms free)
def vx_Post (XC : String → State → State → Prop) (mc ms : Nat) (free : Addr → Prop) : Pt → Array Value → Addr → Pt → Prop := fun A a q B =>
  ∃ (g : JFrame) (mk : MethodId) (t : State) (L : List Loc) (E : String) (ce : Cell), B.U.heap = t.heap ∧ B.U.vm = t.vm ∧ XC E (A.U.calling g mk a) t ∧ t.heap[q]? = some ce ∧ ce.vm = .none ∧ A.U.vm.findClass E = some ce.cls ∧ B.locs = A.locs ++ L ∧ (∀ z ∈ L, free z.base) ∧ B.cells = A.cells + mc ∧ B.slots = A.slots + ms
def vx_Back (l : Launch) (R : Room) (p : Program) (e : Env) (below : List Frame) (s : State) (sargs : Array Value) (y : MethodName) (len W9 : Nat)
    (Pre : Pt → Array Value → Prop) (Post : Pt → Array Value → Option Value → Pt → Prop) (PostX : Pt → Array Value → Addr → Pt → Prop) : Prop :=
  ∀ (m : MethodId) (meth : Method) (c : Code) (A : Pt) (g : JFrame) (ig : Instr) (mk : MethodId) (a : Array Value),
    Stand p l e R s m sargs below meth c A.U A.locs A.cells A.slots → g.method = m → g.locals.size = c.maxLocals → decode c.code g.pc = .ok (ig, len) →
    2 * g.monitorRoom + (g.stack.map fun v => v.category).sum ≤ W9 → A.U.methodNamed? y = some mk → Pre A a →
    (∃ (v : Option Value) (B : Pt), Stand p l e R s m sargs below meth c B.U B.locs B.cells B.slots ∧ Post A a v B ∧
      Steps p.tables e below (doInvoke e (A.U.setTop g) [] mk a).1 (B.U.setTop { g with pc := g.pc + len, stack := v.toList ++ g.stack })) ∨
    (∃ (q : Addr) (B : Pt), Stand p l e R s m sargs below meth c B.U B.locs B.cells B.slots ∧ PostX A a q B ∧
      Steps p.tables e below (doInvoke e (A.U.setTop g) [] mk a).1 ((B.U.setTop g).pushFrame (.throwing q)))
section Payer
variable {l : Launch} {R : Room} {p : Program} {e : Env} {below : List Frame} {s : State} {sargs : Array Value} {y : MethodName} {len W9 : Nat}
theorem vx_back {ws : List Cond} {rm : Room} {Pc : Array Value → State → Prop} {Qc : Array Value → State → Outcome → State → Prop} {XC : String → State → State → Prop} {mc ms : Nat} {free : Addr → Prop} {bytes : ByteArray} {maxL : Nat} {ret : Option FieldType}
    (hM : vx_Met l y ws rm Pc Qc XC mc ms free) (hblind : FrameBlind Pc) (hrc : rm.cells = mc) (hrs : rm.slots = ms)
    (hframes : rm.frames + 1 ≤ R.frames) (hlocals : W9 + (maxL + 11) + rm.locals ≤ R.locals)
    (hws : ∀ w ∈ ws, ∀ a' U, s.WarmedH U.vm → w.before a' U = true) (hcode : Cond.code y bytes maxL ret ∈ ws) (hinit : ∀ a' U, s.WarmedH U.vm → (Cond.initialized y.cls).before a' U = true) :
    vx_Back l R p e below s sargs y len W9 (PreOf R mc ms Pc) (PostOf Qc mc ms free) (vx_Post XC mc ms free) := by
  intro m meth c A g ig mk a X hg hsize hdg hW hn hp
  have h1 : (headSpec ws rm).pre.before a A.U = true := atoms_intro fun w hw => hws w hw _ _ X.warmed
  have h2 : (Cond.code y bytes maxL ret).before a A.U = true := hws _ hcode _ _ X.warmed
  have h3 : (Cond.initialized y.cls).before a A.U = true := hinit _ _ X.warmed
  have h4 : A.cells + (headSpec ws rm).room.cells ≤ R.cells := by rw [show (headSpec ws rm).room.cells = mc from hrc]; exact hp.1
  have h5 : A.slots + (headSpec ws rm).room.slots ≤ R.slots := by rw [show (headSpec ws rm).room.slots = ms from hrs]; exact hp.2.1
  have hPc : Pc a (A.U.calling g mk a) := hblind _ _ _ _ hp.2.2
  obtain ⟨U, Ls, c0, s0⟩ := A
  dsimp only [Pt.U, Pt.locs, Pt.cells, Pt.slots] at h1 h2 h3 h4 h5 X hn hPc ⊢
  obtain ⟨methY, cY, hmY, hcY, -, hlY, -, -, -, -⟩ := Cond.code_spec hn h2
  obtain ⟨kY, hkY, -⟩ := className_of_methodNamed hn
  have hinitY : kY.init = .initialized := Cond.initialized_spec (findClass_of_methodNamed hn) hkY h3
  have h : At U g.method c below := by rw [hg]; exact X.here
  have hlocals9 : W9 + (maxL + 11) + (headSpec ws rm).room.locals ≤ R.locals := hlocals
  have happ : (headSpec ws rm).appliesLoose y e.platform (U.calling g mk a) = true :=
    Spec.appliesLoose_calling (g := g) h hdg hn hkY hinitY
      (X.room_calling (g := g) (R' := (headSpec ws rm).room) hsize hmY hcY hframes (by rw [hlY]; omega) h4 h5) h1
  obtain ⟨mid, hmid⟩ := h.above
  have hfr : (U.setTop g).frames = (.java g :: mid) ++ below := by rw [State.frames_setTop' g h.top, hmid]; rfl
  obtain ⟨o, s₂, hsteps, -, hend, hq⟩ := Steps.callFree hM p X.admits X.cas X.clock (acts := []) hfr happ hPc trivial
  have hq' : vx_Q Qc XC mc ms free a (U.calling g mk a) o s₂ := hq
  rw [State.frames_setTop' g h.top] at hend
  obtain ⟨g₀, hg0⟩ := Option.isSome_iff_exists.mp h.top
  obtain ⟨r, hr⟩ := State.topJava?_eq_some.mp hg0
  have hr' : (({ U with heap := s₂.heap, slotsUsed := s₂.slotsUsed } : State).setVm s₂.vm).frames = .java g₀ :: r := hr
  rcases hq' with ⟨hqc, L, hfe, hL⟩ | ⟨q, rfl, E, ce, L, hx, hce, hcv, hcl, hW₂, hsm, hL⟩
  · obtain ⟨⟨v, rfl⟩, hW₂, e2, q2, q3, q4, q5, q6⟩ := id hfe
    have e3 : s₂ = ({ (U.calling g mk a).setFrames s₂.frames with heap := s₂.heap, slotsUsed := s₂.slotsUsed } : State).setVm s₂.vm := by
      have : s₂ = ({ s₂ with vm := (U.calling g mk a).vm } : State).setVm s₂.vm := rfl
      rw [e2] at this
      exact this
    obtain ⟨c₂, i₂, len₂, hc₂, hd₂, hf₂⟩ := hend
    have hW' : U.WarmedH s₂.vm := hW₂
    have hcc : c₂ = c := by
      have h1 : s₂.code? g.method = U.code? g.method := by
        rw [State.code?_eq, State.code?_eq, hW'.alike.method?]
      exact Option.some.inj (hc₂.symm.trans (h1.trans h.code))
    subst hcc
    have hlen : len₂ = len := by rw [hdg] at hd₂; cases hd₂; rfl
    subst hlen
    have hs₂ : s₂ = (({ U with heap := s₂.heap, slotsUsed := s₂.slotsUsed } : State).setVm s₂.vm).setTop { g with pc := g.pc + len₂, stack := v.toList ++ g.stack } := by
      refine e3.trans ?_
      rw [hf₂, State.calling_eq h.top, State.setFrames_setFrames, State.setTop_of_frames _ hr', hr]
      rfl
    have hsame : U.sameButNew ({ U with heap := s₂.heap, slotsUsed := s₂.slotsUsed } : State) L mc ms := by
      refine ⟨?_, q2, q3, q4, q5, q6⟩
      obtain ⟨t, ht, -⟩ := State.frames_cons hr
      show ({ U with heap := s₂.heap, slotsUsed := s₂.slotsUsed } : State) = { U.setFrames U.frames with heap := s₂.heap, slotsUsed := s₂.slotsUsed }
      rw [State.setFrames_self ht]
    subst hg
    refine Or.inl ⟨v, ⟨(({ U with heap := s₂.heap, slotsUsed := s₂.slotsUsed } : State).setVm s₂.vm), Ls ++ L, c0 + mc, s0 + ms⟩,
      ⟨X.admits, X.cas, X.clock, X.frames, X.room, X.hears, X.method, X.code, (X.here.setHeapUsed s₂.heap s₂.slotsUsed).setVm hW'.alike, X.tail, State.WarmedH.trans X.warmed hW', X.limits, X.bytes, X.same.trans (hsame.setVm s.vm)⟩,
      ⟨g, mk, s₂, L, rfl, rfl, hqc, rfl, hL, rfl, rfl⟩, ?_⟩
    show Steps p.tables e below _ ((({ U with heap := s₂.heap, slotsUsed := s₂.slotsUsed } : State).setVm s₂.vm).setTop { g with pc := g.pc + len₂, stack := v.toList ++ g.stack })
    rw [← hs₂]
    exact hsteps
  · obtain ⟨e2, q2, q3, q4, q5, q6⟩ := id hsm
    have e3 : s₂ = ({ (U.calling g mk a).setFrames s₂.frames with heap := s₂.heap, slotsUsed := s₂.slotsUsed } : State).setVm s₂.vm := by
      have : s₂ = ({ s₂ with vm := (U.calling g mk a).vm } : State).setVm s₂.vm := rfl
      rw [e2] at this
      exact this
    have hf₂ : s₂.frames = .throwing q :: .java g :: U.frames.tail := hend
    have hW' : U.WarmedH s₂.vm := hW₂
    have hs₂ : s₂ = ((({ U with heap := s₂.heap, slotsUsed := s₂.slotsUsed } : State).setVm s₂.vm).setTop g).pushFrame (.throwing q) := by
      refine e3.trans ?_
      rw [hf₂, State.calling_eq h.top, State.setFrames_setFrames, State.pushFrame, State.frames_setTop _ hr', State.setTop_of_frames _ hr', State.setFrames_setFrames, hr]
      rfl
    have hsame : U.sameButNew ({ U with heap := s₂.heap, slotsUsed := s₂.slotsUsed } : State) L mc ms := by
      refine ⟨?_, q2, q3, q4, q5, q6⟩
      obtain ⟨t, ht, -⟩ := State.frames_cons hr
      show ({ U with heap := s₂.heap, slotsUsed := s₂.slotsUsed } : State) = { U.setFrames U.frames with heap := s₂.heap, slotsUsed := s₂.slotsUsed }
      rw [State.setFrames_self ht]
    subst hg
    refine Or.inr ⟨q, ⟨(({ U with heap := s₂.heap, slotsUsed := s₂.slotsUsed } : State).setVm s₂.vm), Ls ++ L, c0 + mc, s0 + ms⟩,
      ⟨X.admits, X.cas, X.clock, X.frames, X.room, X.hears, X.method, X.code, (X.here.setHeapUsed s₂.heap s₂.slotsUsed).setVm hW'.alike, X.tail, State.WarmedH.trans X.warmed hW', X.limits, X.bytes, X.same.trans (hsame.setVm s.vm)⟩,
      ⟨g, mk, s₂, L, E, ce, rfl, rfl, hx, hce, hcv, hcl, rfl, hL, rfl, rfl⟩, ?_⟩
    show Steps p.tables e below _ (((({ U with heap := s₂.heap, slotsUsed := s₂.slotsUsed } : State).setVm s₂.vm).setTop g).pushFrame (.throwing q))
    rw [← hs₂]
    exact hsteps
end Payer
section Calls
variable {p : Program} {l : Launch} {e : Env} {R : Room} {s : State} {m : MethodId} {args : Array Value} {below : List Frame} {meth : Method} {c : Code} {T : State} {locs : List Loc} {cells slots : Nat}
theorem vx_callV (X : Stand p l e R s m args below meth c T locs cells slots) (hexec : p.tables.exec = Jvm.exec) {own C : String} {index : Nat} {y : MethodName} {bytes : ByteArray} {maxL : Nat} {ret : Option FieldType}
    (hown : s.vm.findClass own = some m.cls) (hlink : (Cond.methodLink own index y).before args s = true) (hinst : (Cond.instanceMethod y).before args s = true) (hsel : (Cond.selects C y y).before args s = true)
    (hcode : (Cond.code y bytes maxL ret).before args s = true) (hy : y.cls ≠ "java/lang/invoke/MethodHandle" ∧ y.cls ≠ "java/lang/invoke/VarHandle")
    {W9 : Nat} {Pre : Pt → Array Value → Prop} {Post : Pt → Array Value → Option Value → Pt → Prop} {PostX : Pt → Array Value → Addr → Pt → Prop} (hK : vx_Back l R p e below s args y 3 W9 Pre Post PostX)
    {b : Addr} {cellB : Cell} (hcell : T.heap[b]? = some cellB) (hobj : cellB.vm.isStatics = false) (hcls : s.vm.findClass C = some cellB.cls)
    {g : JFrame} (hg : g.method = m) (hsize : g.locals.size = c.maxLocals) {argsL rest : List Value} (hlen : ∀ sig, parseMethodDescriptor y.desc = some sig → argsL.length = sig.parameters.length)
    (hstack : g.stack = argsL.reverse ++ .ref b :: rest) (hW : 2 * g.monitorRoom + (rest.map fun v => v.category).sum ≤ W9) (hdg : decode c.code g.pc = .ok (.invokevirtual index, 3))
    (hpre : ∀ vm₁, s.WarmedH vm₁ → Pre ⟨T.setVm vm₁, locs, cells, slots⟩ (Value.ref b :: argsL).toArray) :
    (∃ (v : Option Value) (vm₁ : Vm) (B : Pt), s.WarmedH vm₁ ∧ Stand p l e R s m args below meth c B.U B.locs B.cells B.slots ∧ Post ⟨T.setVm vm₁, locs, cells, slots⟩ (Value.ref b :: argsL).toArray v B ∧
      ∀ target, Steps p.tables e below (B.U.setTop { g with pc := g.pc + 3, stack := v.toList ++ rest }) target → Steps p.tables e below (T.setTop g) target) ∨
    (∃ (q : Addr) (vm₁ : Vm) (B : Pt), s.WarmedH vm₁ ∧ Stand p l e R s m args below meth c B.U B.locs B.cells B.slots ∧ PostX ⟨T.setVm vm₁, locs, cells, slots⟩ (Value.ref b :: argsL).toArray q B ∧
      Steps p.tables e below (T.setTop g) ((B.U.setTop { g with stack := rest }).pushFrame (.throwing q))) := by
  obtain ⟨mk, methM, hnamed, hmethM, hstM, habM⟩ := Cond.instanceMethod_spec hinst
  obtain ⟨methM', cM, hmethM', -, -, -, -, -, -, hsigM⟩ := Cond.code_spec hnamed hcode
  cases hmethM.symm.trans hmethM'
  obtain ⟨c2, r2, m2, q1, q2, q3, q4, kP, hkP, hkPi⟩ := Cond.selects_spec hsel
  cases hcls.symm.trans q1
  cases (State.methodFound?_of_named hnamed hy).symm.trans q2
  cases hnamed.symm.trans q3
  have hselP : selectMethod e.platform s.vm cellB.cls mk = .method mk := by rw [Launch.admits_selectMethod X.admits]; exact q4
  obtain ⟨vm₁, X₁, hstep₁⟩ := X.invokevirtual hexec hown hlink hnamed hmethM hstM hkP hkPi hy (a := b) (cell := cellB) hcell
    (fun z h => by rw [h] at hobj; cases hobj) hselP hmethM habM hkP hkPi (g := g) hg (argsL := argsL) (rest := rest) (hlen _ hsigM) hstack hdg
  rcases hK m meth c ⟨T.setVm vm₁, locs, cells, slots⟩ { g with stack := rest } (.invokevirtual index) mk (Value.ref b :: argsL).toArray X₁ hg hsize hdg hW (X₁.named hnamed) (hpre vm₁ X₁.warmed) with ⟨v, B, X', hpost, hsteps⟩ | ⟨q, B, X', hpost, hsteps⟩
  · exact Or.inl ⟨v, vm₁, B, X₁.warmed, X', hpost, fun target h => hstep₁ _ fun acts => by rw [doInvoke_state]; exact hsteps.trans h⟩
  · exact Or.inr ⟨q, vm₁, B, X₁.warmed, X', hpost, hstep₁ _ fun acts => by rw [doInvoke_state]; exact hsteps⟩
theorem vx_callS (X : Stand p l e R s m args below meth c T locs cells slots) (hexec : p.tables.exec = Jvm.exec) {own : String} {index : Nat} {y : MethodName} {bytes : ByteArray} {maxL : Nat} {ret : Option FieldType}
    (hown : s.vm.findClass own = some m.cls) (hlink : (Cond.methodLink own index y).before args s = true) (hstat : (Cond.static y).before args s = true) (hinit : (Cond.initialized y.cls).before args s = true)
    (hcode : (Cond.code y bytes maxL ret).before args s = true) (hy : y.cls ≠ "java/lang/invoke/MethodHandle" ∧ y.cls ≠ "java/lang/invoke/VarHandle")
    {W9 : Nat} {Pre : Pt → Array Value → Prop} {Post : Pt → Array Value → Option Value → Pt → Prop} {PostX : Pt → Array Value → Addr → Pt → Prop} (hK : vx_Back l R p e below s args y 3 W9 Pre Post PostX)
    {g : JFrame} (hg : g.method = m) (hsize : g.locals.size = c.maxLocals) {argsL rest : List Value} (hlen : ∀ sig, parseMethodDescriptor y.desc = some sig → argsL.length = sig.parameters.length)
    (hstack : g.stack = argsL.reverse ++ rest) (hW : 2 * g.monitorRoom + (rest.map fun v => v.category).sum ≤ W9) (hdg : decode c.code g.pc = .ok (.invokestatic index, 3))
    (hpre : ∀ vm₁, s.WarmedH vm₁ → Pre ⟨T.setVm vm₁, locs, cells, slots⟩ argsL.toArray) :
    (∃ (v : Option Value) (vm₁ : Vm) (B : Pt), s.WarmedH vm₁ ∧ Stand p l e R s m args below meth c B.U B.locs B.cells B.slots ∧ Post ⟨T.setVm vm₁, locs, cells, slots⟩ argsL.toArray v B ∧
      ∀ target, Steps p.tables e below (B.U.setTop { g with pc := g.pc + 3, stack := v.toList ++ rest }) target → Steps p.tables e below (T.setTop g) target) ∨
    (∃ (q : Addr) (vm₁ : Vm) (B : Pt), s.WarmedH vm₁ ∧ Stand p l e R s m args below meth c B.U B.locs B.cells B.slots ∧ PostX ⟨T.setVm vm₁, locs, cells, slots⟩ argsL.toArray q B ∧
      Steps p.tables e below (T.setTop g) ((B.U.setTop { g with stack := rest }).pushFrame (.throwing q))) := by
  obtain ⟨mk, hnamed⟩ := Cond.code_named hcode
  obtain ⟨methM, cM, hmethM, -, -, -, -, -, -, hsigM⟩ := Cond.code_spec hnamed hcode
  have hstatic : methM.isStatic = true := Cond.static_spec hnamed hmethM hstat
  obtain ⟨kP, hkP, -⟩ := className_of_methodNamed hnamed
  have hinitP : kP.init = .initialized := Cond.initialized_spec (findClass_of_methodNamed hnamed) hkP hinit
  obtain ⟨vm₁, X₁, hstep₁⟩ := X.invokestatic hexec hown hlink hnamed hmethM hstatic hkP hinitP hy (g := g) hg (argsL := argsL) (rest := rest) (hlen _ hsigM) hstack hdg
  rcases hK m meth c ⟨T.setVm vm₁, locs, cells, slots⟩ { g with stack := rest } (.invokestatic index) mk argsL.toArray X₁ hg hsize hdg hW (X₁.named hnamed) (hpre vm₁ X₁.warmed) with ⟨v, B, X', hpost, hsteps⟩ | ⟨q, B, X', hpost, hsteps⟩
  · exact Or.inl ⟨v, vm₁, B, X₁.warmed, X', hpost, fun target h => hstep₁ _ fun acts => by rw [doInvoke_state]; exact hsteps.trans h⟩
  · exact Or.inr ⟨q, vm₁, B, X₁.warmed, X', hpost, hstep₁ _ fun acts => by rw [doInvoke_state]; exact hsteps⟩
end Calls
theorem vx_cls {s : State} {T : State} {vm₁ : Vm} {E : String} {k : ClassId} (hW : s.WarmedH vm₁) (h : (T.setVm vm₁).vm.findClass E = some k) : s.vm.findClass E = some k := by
  have h1 : vm₁.findClass E = some k := h
  rw [hW.alike.findClass] at h1
  exact h1
/-- the method's frame g, with q thrown over it -/
def vx_W (p : Program) (l : Launch) (e : Env) (R : Room) (s : State) (m : MethodId) (args : Array Value) (below : List Frame) (meth : Method) (c : Code) (H : Heap) (locs : List Loc) (cells slots : Nat) (Q : State → Prop) (g : JFrame) (q : Addr) : Prop :=
  ∀ T : State, T.heap = H → Stand p l e R s m args below meth c T locs cells slots → ∃ t, Steps p.tables e below ((T.setTop g).pushFrame (.throwing q)) t ∧ Q t
def vx_Run (p : Program) (l : Launch) (e : Env) (R : Room) (s : State) (m : MethodId) (args : Array Value) (below : List Frame) (meth : Method) (c : Code) (H : Heap) (locs : List Loc) (cells slots mc ms : Nat) (g : JFrame) (rest : List Value) (Qa : State → Outcome → State → Prop) (XC : String → State → State → Prop) (free : Addr → Prop) : Prop :=
  ∀ T : State, T.heap = H → Stand p l e R s m args below meth c T locs cells slots →
    (∃ (v : Option Value) (st₀ t T' : State) (L : List Loc), st₀.heap = H ∧ Stand p l e R s m args below meth c T' (locs ++ L) (cells + mc) (slots + ms) ∧ (∀ q ∈ L, free q.base) ∧ T'.heap = t.heap ∧ T'.vm = t.vm ∧ Qa st₀ (.returned v) t ∧
      Goes p e below T g T' { g with pc := g.pc + 3, stack := v.toList ++ rest }) ∨
    (∃ (q : Addr) (st₀ t T' : State) (L : List Loc) (E : String) (ce : Cell), st₀.heap = H ∧ Stand p l e R s m args below meth c T' (locs ++ L) (cells + mc) (slots + ms) ∧ (∀ z ∈ L, free z.base) ∧ T'.heap = t.heap ∧ T'.vm = t.vm ∧ XC E st₀ t ∧ t.heap[q]? = some ce ∧ ce.vm = .none ∧ s.vm.findClass E = some ce.cls ∧
      Steps p.tables e below (T.setTop g) ((T'.setTop { g with stack := rest }).pushFrame (.throwing q)))
def vx_X {S : Type} (px : S → Prop) (B : String → S → State → Prop) (A : Nat → Prop) : String → State → State → Prop := fun E st t => ∃ u : S, px u ∧ B E u t ∧ va_F A st t
section Runs
variable {p : Program} {l : Launch} {e : Env} {R : Room} {s : State} {m : MethodId} {args : Array Value} {below : List Frame} {meth : Method} {c : Code} {H : Heap} {locs : List Loc} {cells slots : Nat}
variable {y : MethodName} {bytes cc : ByteArray} {maxL nL mc ms n index : Nat} {ret : Option FieldType} {ws : List Cond} {rm : Room} {Pc : Array Value → State → Prop} {Qc : Array Value → State → Outcome → State → Prop} {XC : String → State → State → Prop} {free : Addr → Prop} {Ts : List Cond} {own C : String} {b : Addr} {As rest : List Value} {g : JFrame}
theorem vx_callBack (cb : CallB R s args own index y bytes maxL ret ws rm mc ms n) (hM : vx_Met l y ws rm Pc Qc XC mc ms free) (hbl : FrameBlind Pc) : vx_Back l R p e below s args y 3 8 (PreOf R mc ms Pc) (PostOf Qc mc ms free) (vx_Post XC mc ms free) := by
  obtain ⟨hrc, hrs, hfr, hlo, hws, hcw, -, hini, -⟩ := cb
  exact vx_back (bytes := bytes) (maxL := maxL) (ret := ret) hM hbl hrc hrs hfr hlo hws hcw (fun a' U hW => word_at hW (Or.inl (by first | rfl | simp [Cond.onTables, Cond.keeps, Cond.steady])) hini)
theorem vx_runV (S : CallFix p m c cc nL s args Ts own) (hM : vx_Met l y ws rm Pc Qc XC mc ms free) (cw : CallW R s args own C index y bytes maxL ret ws rm mc ms n) (hp : PreV s H C b Pc As)
    (hg : g.method = m) (hn : As.length = n) (hsize : g.locals.size = nL) (hstack : g.stack = As.reverse ++ .ref b :: rest) (hW : 2 * g.monitorRoom + (rest.map fun v => v.category).sum ≤ 8) (hdg : decode cc g.pc = .ok (.invokevirtual index, 3)) (hf : cells + mc ≤ R.cells ∧ slots + ms ≤ R.slots) :
    vx_Run p l e R s m args below meth c H locs cells slots mc ms g rest (Qc (Value.ref b :: As).toArray) XC free := by
  have hK : vx_Back l R p e below s args y 3 8 (PreOf R mc ms Pc) (PostOf Qc mc ms free) (vx_Post XC mc ms free) := vx_callBack cw.1 hM hp.1
  obtain ⟨⟨-, -, -, -, -, -, hcode, -, hy, hlen, hl⟩, hin, hse⟩ := cw
  obtain ⟨hx, hb, hml, ho, -⟩ := S
  obtain ⟨-, ⟨cellB, hcB, hoB, hclB⟩, hPc⟩ := hp
  intro T hT X
  rcases vx_callV X hx (C := C) (bytes := bytes) (maxL := maxL) (ret := ret) ho hl hin hse hcode hy hK (by rw [hT]; exact hcB) hoB hclB hg (hsize.trans hml.symm) (argsL := As) (rest := rest) (fun sig h => hn.trans (hlen sig h)) hstack hW (by rw [hb]; exact hdg)
    (fun vm₁ hW₁ => ⟨hf.1, hf.2, hPc (T.setVm vm₁) hT hW₁⟩) with ⟨v, vm₁, ⟨U', l2, c2, s2⟩, hW₁, X', ⟨g', mk, t, L, e1, e2, hq, h1, hL, h2, h3⟩, st⟩ | ⟨q, vm₁, ⟨U', l2, c2, s2⟩, hW₁, X', ⟨g', mk, t, L, E, ce, e1, e2, hq, hce, hcv, hcl, h1, hL, h2, h3⟩, st⟩
  · dsimp only [Pt.U, Pt.locs, Pt.cells, Pt.slots] at X' e1 e2 h1 h2 h3 st
    subst h1; subst h2; subst h3
    exact Or.inl ⟨v, (T.setVm vm₁).calling g' mk (Value.ref b :: As).toArray, t, U', L, hT, X', hL, e1, e2, hq, st⟩
  · dsimp only [Pt.U, Pt.locs, Pt.cells, Pt.slots] at X' e1 e2 h1 h2 h3 st hcl
    subst h1; subst h2; subst h3
    exact Or.inr ⟨q, (T.setVm vm₁).calling g' mk (Value.ref b :: As).toArray, t, U', L, E, ce, hT, X', hL, e1, e2, hq, hce, hcv, vx_cls hW₁ hcl, st⟩
theorem vx_runS (S : CallFix p m c cc nL s args Ts own) (hM : vx_Met l y ws rm Pc Qc XC mc ms free) (cw : CallB R s args own index y bytes maxL ret ws rm mc ms n ∧ (Cond.static y).before args s = true) (hp : PreS s H Pc As)
    (hg : g.method = m) (hn : As.length = n) (hsize : g.locals.size = nL) (hstack : g.stack = As.reverse ++ rest) (hW : 2 * g.monitorRoom + (rest.map fun v => v.category).sum ≤ 8) (hdg : decode cc g.pc = .ok (.invokestatic index, 3)) (hf : cells + mc ≤ R.cells ∧ slots + ms ≤ R.slots) :
    vx_Run p l e R s m args below meth c H locs cells slots mc ms g rest (Qc As.toArray) XC free := by
  have hK : vx_Back l R p e below s args y 3 8 (PreOf R mc ms Pc) (PostOf Qc mc ms free) (vx_Post XC mc ms free) := vx_callBack cw.1 hM hp.1
  obtain ⟨⟨-, -, -, -, -, -, hcode, hini, hy, hlen, hl⟩, hstt⟩ := cw
  obtain ⟨hx, hb, hml, ho, -⟩ := S
  intro T hT X
  rcases vx_callS X hx (bytes := bytes) (maxL := maxL) (ret := ret) ho hl hstt hini hcode hy hK hg (hsize.trans hml.symm) (argsL := As) (rest := rest) (fun sig h => hn.trans (hlen sig h)) hstack hW (by rw [hb]; exact hdg)
    (fun vm₁ hW₁ => ⟨hf.1, hf.2, hp.2 (T.setVm vm₁) hT hW₁⟩) with ⟨v, vm₁, ⟨U', l2, c2, s2⟩, hW₁, X', ⟨g', mk, t, L, e1, e2, hq, h1, hL, h2, h3⟩, st⟩ | ⟨q, vm₁, ⟨U', l2, c2, s2⟩, hW₁, X', ⟨g', mk, t, L, E, ce, e1, e2, hq, hce, hcv, hcl, h1, hL, h2, h3⟩, st⟩
  · dsimp only [Pt.U, Pt.locs, Pt.cells, Pt.slots] at X' e1 e2 h1 h2 h3 st
    subst h1; subst h2; subst h3
    exact Or.inl ⟨v, (T.setVm vm₁).calling g' mk As.toArray, t, U', L, hT, X', hL, e1, e2, hq, st⟩
  · dsimp only [Pt.U, Pt.locs, Pt.cells, Pt.slots] at X' e1 e2 h1 h2 h3 st hcl
    subst h1; subst h2; subst h3
    exact Or.inr ⟨q, (T.setVm vm₁).calling g' mk As.toArray, t, U', L, E, ce, hT, X', hL, e1, e2, hq, hce, hcv, vx_cls hW₁ hcl, st⟩
end Runs
section Rows
variable {p : Program} {l : Launch} {e : Env} {R : Room} {s : State} {m : MethodId} {args : Array Value} {below : List Frame} {meth : Method} {c : Code} {H : Heap} {locs : List Loc} {cells slots : Nat} {Q : State → Prop}
variable {mc ms : Nat} {free : Addr → Prop} {A0 A1 : Nat → Prop} {H0 : Heap} {a : Array Value} {pc : Nat} {ls : Array Slot} {st0 rest : List Value}
theorem vx_keep {st₀ t T' : State} {L : List Loc} (h0 : st₀.heap = H) (e1 : T'.heap = t.heap) (hS : va_S A0 H0 H locs) (hA : ∀ q, q < H.size → A1 q → A0 q) (hf : ∀ q, free q → A0 q) (hL : ∀ q ∈ L, free q.base) (hF : va_F A1 st₀ t) :
    H.size ≤ T'.heap.size ∧ (∀ q : Nat, q < H.size → ¬ A1 q → T'.heap[q]? = H[q]?) ∧ va_S A0 H0 T'.heap (locs ++ L) := by
  obtain ⟨hz, hk⟩ := hF
  rw [h0] at hz hk
  exact ⟨by rw [e1]; exact hz, fun q h1 h2 => by rw [e1]; exact hk q h1 h2,
    ⟨Nat.le_trans hS.1 (by rw [e1]; exact hz), fun q h1 h2 => by rw [e1, hk q (Nat.lt_of_lt_of_le h1 hS.1) (fun z => h2 (hA q (Nat.lt_of_lt_of_le h1 hS.1) z))]; exact hS.2.1 q h1 h2, fun q hq => by
      rcases List.mem_append.mp hq with h | h
      · exact hS.2.2 q h
      · exact hf _ (hL q h)⟩⟩
theorem vx_calli {S SX : Type} {post : Int32 → S → Prop} {px : SX → Prop} {B : S → State → Prop} {BX : String → SX → State → Prop} {AX : Nat → Prop} (hr : vx_Run p l e R s m args below meth c H locs cells slots mc ms (F0 m pc ls st0) rest (va_Qi post B A1 a) (vx_X px BX AX) free) (hS : va_S A0 H0 H locs) (hA : ∀ q, q < H.size → A1 q → A0 q) (hf : ∀ q, free q → A0 q) (hAX : ∀ q, q < H.size → AX q → A0 q)
    (kx : ∀ (E : String) (ce : Cell) (q9 : Addr) (u : SX) (t : State) (H1 : Heap) (locs1 : List Loc), t.heap = H1 → s.vm.Alike t.vm → px u → BX E u t → H.size ≤ H1.size → (∀ q : Nat, q < H.size → ¬ AX q → H1[q]? = H[q]?) → va_S A0 H0 H1 locs1 → H1[q9]? = some ce → ce.vm = .none → s.vm.findClass E = some ce.cls → vx_W p l e R s m args below meth c H1 locs1 (cells + mc) (slots + ms) Q (F0 m pc ls rest) q9)
    (kk : ∀ (r : Int32) (u : S) (t : State) (H1 : Heap) (locs1 : List Loc), t.heap = H1 → s.vm.Alike t.vm → post r u → B u t → H.size ≤ H1.size → (∀ q : Nat, q < H.size → ¬ A1 q → H1[q]? = H[q]?) → va_S A0 H0 H1 locs1 → W p l e R s m args below meth c H1 locs1 (cells + mc) (slots + ms) Q (F0 m (pc + 3) ls (.int r :: rest))) : W p l e R s m args below meth c H locs cells slots Q (F0 m pc ls st0) := by
  intro T hT X
  rcases hr T hT X with ⟨v, st₀, t, T', L, h0, X', hL, e1, e2, ⟨⟨r, u, hv, hp, hb⟩, hF⟩, st⟩ | ⟨q, st₀, t, T', L, E, ce, h0, X', hL, e1, e2, ⟨u, hp, hb, hF⟩, hce, hcv, hcl, st⟩
  · cases hv
    obtain ⟨k1, k2, k3⟩ := vx_keep h0 e1 hS hA hf hL hF
    obtain ⟨t2, a1, b1⟩ := kk r u t T'.heap (locs ++ L) e1.symm (by rw [← e2]; exact X'.warmed.alike) hp hb k1 k2 k3 T' rfl X'
    exact ⟨t2, st t2 a1, b1⟩
  · obtain ⟨k1, k2, k3⟩ := vx_keep h0 e1 hS hAX hf hL hF
    obtain ⟨t2, a1, b1⟩ := kx E ce q u t T'.heap (locs ++ L) e1.symm (by rw [← e2]; exact X'.warmed.alike) hp hb k1 k2 k3 (by rw [e1]; exact hce) hcv hcl T' rfl X'
    exact ⟨t2, st.trans a1, b1⟩
theorem vx_calll {S SX : Type} {post : Int64 → S → Prop} {px : SX → Prop} {B : S → State → Prop} {BX : String → SX → State → Prop} {AX : Nat → Prop} (hr : vx_Run p l e R s m args below meth c H locs cells slots mc ms (F0 m pc ls st0) rest (va_Ql post B A1 a) (vx_X px BX AX) free) (hS : va_S A0 H0 H locs) (hA : ∀ q, q < H.size → A1 q → A0 q) (hf : ∀ q, free q → A0 q) (hAX : ∀ q, q < H.size → AX q → A0 q)
    (kx : ∀ (E : String) (ce : Cell) (q9 : Addr) (u : SX) (t : State) (H1 : Heap) (locs1 : List Loc), t.heap = H1 → s.vm.Alike t.vm → px u → BX E u t → H.size ≤ H1.size → (∀ q : Nat, q < H.size → ¬ AX q → H1[q]? = H[q]?) → va_S A0 H0 H1 locs1 → H1[q9]? = some ce → ce.vm = .none → s.vm.findClass E = some ce.cls → vx_W p l e R s m args below meth c H1 locs1 (cells + mc) (slots + ms) Q (F0 m pc ls rest) q9)
    (kk : ∀ (r : Int64) (u : S) (t : State) (H1 : Heap) (locs1 : List Loc), t.heap = H1 → s.vm.Alike t.vm → post r u → B u t → H.size ≤ H1.size → (∀ q : Nat, q < H.size → ¬ A1 q → H1[q]? = H[q]?) → va_S A0 H0 H1 locs1 → W p l e R s m args below meth c H1 locs1 (cells + mc) (slots + ms) Q (F0 m (pc + 3) ls (.long r :: rest))) : W p l e R s m args below meth c H locs cells slots Q (F0 m pc ls st0) := by
  intro T hT X
  rcases hr T hT X with ⟨v, st₀, t, T', L, h0, X', hL, e1, e2, ⟨⟨r, u, hv, hp, hb⟩, hF⟩, st⟩ | ⟨q, st₀, t, T', L, E, ce, h0, X', hL, e1, e2, ⟨u, hp, hb, hF⟩, hce, hcv, hcl, st⟩
  · cases hv
    obtain ⟨k1, k2, k3⟩ := vx_keep h0 e1 hS hA hf hL hF
    obtain ⟨t2, a1, b1⟩ := kk r u t T'.heap (locs ++ L) e1.symm (by rw [← e2]; exact X'.warmed.alike) hp hb k1 k2 k3 T' rfl X'
    exact ⟨t2, st t2 a1, b1⟩
  · obtain ⟨k1, k2, k3⟩ := vx_keep h0 e1 hS hAX hf hL hF
    obtain ⟨t2, a1, b1⟩ := kx E ce q u t T'.heap (locs ++ L) e1.symm (by rw [← e2]; exact X'.warmed.alike) hp hb k1 k2 k3 (by rw [e1]; exact hce) hcv hcl T' rfl X'
    exact ⟨t2, st.trans a1, b1⟩
theorem vx_callf {S SX : Type} {post : UInt32 → S → Prop} {px : SX → Prop} {B : S → State → Prop} {BX : String → SX → State → Prop} {AX : Nat → Prop} (hr : vx_Run p l e R s m args below meth c H locs cells slots mc ms (F0 m pc ls st0) rest (va_Qf post B A1 a) (vx_X px BX AX) free) (hS : va_S A0 H0 H locs) (hA : ∀ q, q < H.size → A1 q → A0 q) (hf : ∀ q, free q → A0 q) (hAX : ∀ q, q < H.size → AX q → A0 q)
    (kx : ∀ (E : String) (ce : Cell) (q9 : Addr) (u : SX) (t : State) (H1 : Heap) (locs1 : List Loc), t.heap = H1 → s.vm.Alike t.vm → px u → BX E u t → H.size ≤ H1.size → (∀ q : Nat, q < H.size → ¬ AX q → H1[q]? = H[q]?) → va_S A0 H0 H1 locs1 → H1[q9]? = some ce → ce.vm = .none → s.vm.findClass E = some ce.cls → vx_W p l e R s m args below meth c H1 locs1 (cells + mc) (slots + ms) Q (F0 m pc ls rest) q9)
    (kk : ∀ (r : UInt32) (u : S) (t : State) (H1 : Heap) (locs1 : List Loc), t.heap = H1 → s.vm.Alike t.vm → post r u → B u t → H.size ≤ H1.size → (∀ q : Nat, q < H.size → ¬ A1 q → H1[q]? = H[q]?) → va_S A0 H0 H1 locs1 → W p l e R s m args below meth c H1 locs1 (cells + mc) (slots + ms) Q (F0 m (pc + 3) ls (.float r :: rest))) : W p l e R s m args below meth c H locs cells slots Q (F0 m pc ls st0) := by
  intro T hT X
  rcases hr T hT X with ⟨v, st₀, t, T', L, h0, X', hL, e1, e2, ⟨⟨r, u, hv, hp, hb⟩, hF⟩, st⟩ | ⟨q, st₀, t, T', L, E, ce, h0, X', hL, e1, e2, ⟨u, hp, hb, hF⟩, hce, hcv, hcl, st⟩
  · cases hv
    obtain ⟨k1, k2, k3⟩ := vx_keep h0 e1 hS hA hf hL hF
    obtain ⟨t2, a1, b1⟩ := kk r u t T'.heap (locs ++ L) e1.symm (by rw [← e2]; exact X'.warmed.alike) hp hb k1 k2 k3 T' rfl X'
    exact ⟨t2, st t2 a1, b1⟩
  · obtain ⟨k1, k2, k3⟩ := vx_keep h0 e1 hS hAX hf hL hF
    obtain ⟨t2, a1, b1⟩ := kx E ce q u t T'.heap (locs ++ L) e1.symm (by rw [← e2]; exact X'.warmed.alike) hp hb k1 k2 k3 (by rw [e1]; exact hce) hcv hcl T' rfl X'
    exact ⟨t2, st.trans a1, b1⟩
theorem vx_calld {S SX : Type} {post : UInt64 → S → Prop} {px : SX → Prop} {B : S → State → Prop} {BX : String → SX → State → Prop} {AX : Nat → Prop} (hr : vx_Run p l e R s m args below meth c H locs cells slots mc ms (F0 m pc ls st0) rest (va_Qd post B A1 a) (vx_X px BX AX) free) (hS : va_S A0 H0 H locs) (hA : ∀ q, q < H.size → A1 q → A0 q) (hf : ∀ q, free q → A0 q) (hAX : ∀ q, q < H.size → AX q → A0 q)
    (kx : ∀ (E : String) (ce : Cell) (q9 : Addr) (u : SX) (t : State) (H1 : Heap) (locs1 : List Loc), t.heap = H1 → s.vm.Alike t.vm → px u → BX E u t → H.size ≤ H1.size → (∀ q : Nat, q < H.size → ¬ AX q → H1[q]? = H[q]?) → va_S A0 H0 H1 locs1 → H1[q9]? = some ce → ce.vm = .none → s.vm.findClass E = some ce.cls → vx_W p l e R s m args below meth c H1 locs1 (cells + mc) (slots + ms) Q (F0 m pc ls rest) q9)
    (kk : ∀ (r : UInt64) (u : S) (t : State) (H1 : Heap) (locs1 : List Loc), t.heap = H1 → s.vm.Alike t.vm → post r u → B u t → H.size ≤ H1.size → (∀ q : Nat, q < H.size → ¬ A1 q → H1[q]? = H[q]?) → va_S A0 H0 H1 locs1 → W p l e R s m args below meth c H1 locs1 (cells + mc) (slots + ms) Q (F0 m (pc + 3) ls (.double r :: rest))) : W p l e R s m args below meth c H locs cells slots Q (F0 m pc ls st0) := by
  intro T hT X
  rcases hr T hT X with ⟨v, st₀, t, T', L, h0, X', hL, e1, e2, ⟨⟨r, u, hv, hp, hb⟩, hF⟩, st⟩ | ⟨q, st₀, t, T', L, E, ce, h0, X', hL, e1, e2, ⟨u, hp, hb, hF⟩, hce, hcv, hcl, st⟩
  · cases hv
    obtain ⟨k1, k2, k3⟩ := vx_keep h0 e1 hS hA hf hL hF
    obtain ⟨t2, a1, b1⟩ := kk r u t T'.heap (locs ++ L) e1.symm (by rw [← e2]; exact X'.warmed.alike) hp hb k1 k2 k3 T' rfl X'
    exact ⟨t2, st t2 a1, b1⟩
  · obtain ⟨k1, k2, k3⟩ := vx_keep h0 e1 hS hAX hf hL hF
    obtain ⟨t2, a1, b1⟩ := kx E ce q u t T'.heap (locs ++ L) e1.symm (by rw [← e2]; exact X'.warmed.alike) hp hb k1 k2 k3 (by rw [e1]; exact hce) hcv hcl T' rfl X'
    exact ⟨t2, st.trans a1, b1⟩
theorem vx_callv {S SX : Type} {post : S → Prop} {px : SX → Prop} {B : S → State → Prop} {BX : String → SX → State → Prop} {AX : Nat → Prop} (hr : vx_Run p l e R s m args below meth c H locs cells slots mc ms (F0 m pc ls st0) rest (va_Qv post B A1 a) (vx_X px BX AX) free) (hS : va_S A0 H0 H locs) (hA : ∀ q, q < H.size → A1 q → A0 q) (hf : ∀ q, free q → A0 q) (hAX : ∀ q, q < H.size → AX q → A0 q)
    (kx : ∀ (E : String) (ce : Cell) (q9 : Addr) (u : SX) (t : State) (H1 : Heap) (locs1 : List Loc), t.heap = H1 → s.vm.Alike t.vm → px u → BX E u t → H.size ≤ H1.size → (∀ q : Nat, q < H.size → ¬ AX q → H1[q]? = H[q]?) → va_S A0 H0 H1 locs1 → H1[q9]? = some ce → ce.vm = .none → s.vm.findClass E = some ce.cls → vx_W p l e R s m args below meth c H1 locs1 (cells + mc) (slots + ms) Q (F0 m pc ls rest) q9)
    (kk : ∀ (u : S) (t : State) (H1 : Heap) (locs1 : List Loc), t.heap = H1 → s.vm.Alike t.vm → post u → B u t → H.size ≤ H1.size → (∀ q : Nat, q < H.size → ¬ A1 q → H1[q]? = H[q]?) → va_S A0 H0 H1 locs1 → W p l e R s m args below meth c H1 locs1 (cells + mc) (slots + ms) Q (F0 m (pc + 3) ls (rest))) : W p l e R s m args below meth c H locs cells slots Q (F0 m pc ls st0) := by
  intro T hT X
  rcases hr T hT X with ⟨v, st₀, t, T', L, h0, X', hL, e1, e2, ⟨⟨u, hv, hp, hb⟩, hF⟩, st⟩ | ⟨q, st₀, t, T', L, E, ce, h0, X', hL, e1, e2, ⟨u, hp, hb, hF⟩, hce, hcv, hcl, st⟩
  · cases hv
    obtain ⟨k1, k2, k3⟩ := vx_keep h0 e1 hS hA hf hL hF
    obtain ⟨t2, a1, b1⟩ := kk u t T'.heap (locs ++ L) e1.symm (by rw [← e2]; exact X'.warmed.alike) hp hb k1 k2 k3 T' rfl X'
    exact ⟨t2, st t2 a1, b1⟩
  · obtain ⟨k1, k2, k3⟩ := vx_keep h0 e1 hS hAX hf hL hF
    obtain ⟨t2, a1, b1⟩ := kx E ce q u t T'.heap (locs ++ L) e1.symm (by rw [← e2]; exact X'.warmed.alike) hp hb k1 k2 k3 (by rw [e1]; exact hce) hcv hcl T' rfl X'
    exact ⟨t2, st.trans a1, b1⟩
/-- caught by the row x of this method's table; the rows ahead don't take it -/
theorem vx_catch {own name : String} {E : String} {ce : Cell} {q : Addr} (hown : s.vm.findClass own = some m.cls) (pre : List ExceptionTableEntry) (x : ExceptionTableEntry) (suf : List ExceptionTableEntry) (hsplit : c.exceptionTable.toList = pre ++ x :: suf)
    (hpass : ∀ z ∈ pre, covers z pc = false ∨ (z.catchType ≠ 0 ∧ ∃ nm : String, (Cond.classLink own z.catchType nm).before args s = true ∧ va_Nc E nm s)) (hx : covers x pc = true) (h0 : x.catchType ≠ 0)
    (hlink : (Cond.classLink own x.catchType name).before args s = true) (hcast : (Cond.castable E name).before args s = true) (hcell : H[q]? = some ce) (hv : ce.vm = .none) (hcl : s.vm.findClass E = some ce.cls)
    (kk : W p l e R s m args below meth c H locs cells slots Q (F0 m x.handlerPc ls [.ref q])) : vx_W p l e R s m args below meth c H locs cells slots Q (F0 m pc ls rest) q := by
  intro T hT X
  have hpl : e.platform.magicAccessors = ({} : Platform).magicAccessors := by rw [X.admits.platform]
  obtain ⟨c3, c4, hc3, hc4, hasg⟩ := Cond.castable_spec hcast
  cases Option.some.inj (hc3.symm.trans hcl)
  obtain ⟨c5, hc5, hcl5⟩ := Cond.classLink_spec hown hlink e.platform hpl
  cases Option.some.inj (hc4.symm.trans hc5)
  obtain ⟨vm', X', st⟩ := X.thenCaughtThrough q (g := F0 m pc ls rest) rfl (Steps.refl _) (by rw [hT]; exact hcell) (by rw [hv]; rfl) (by obtain ⟨k9, h9, -⟩ := Vm.findClass_spec hcl; exact ⟨k9, h9⟩) pre x suf hsplit
    (fun z hz => by
      rcases hpass z hz with h | ⟨hz0, nm, hl1, hn1⟩
      · exact Or.inl h
      · obtain ⟨c6, hc6, hcl6⟩ := Cond.classLink_spec hown hl1 e.platform hpl
        obtain ⟨a8, b8, h1, h2, h3⟩ := hn1
        cases Option.some.inj (h1.symm.trans hcl)
        cases Option.some.inj (h2.symm.trans hc6)
        exact Or.inr ⟨hz0, _, hcl6, h3⟩) hx (Or.inr ⟨h0, c4, hcl5, hasg⟩)
  obtain ⟨t, a1, b1⟩ := kk (T.setVm vm') hT X'
  exact ⟨t, st.trans a1, b1⟩
end Rows
section Ends
variable {p : Program} {l : Launch} {e : Env} {R : Room} {s : State} {m : MethodId} {args : Array Value} {below : List Frame} {meth : Method} {c : Code} {H : Heap} {locs : List Loc} {cells slots : Nat} {Q : State → Prop}
variable {mc ms : Nat} {free : Addr → Prop} {A0 A1 : Nat → Prop} {H0 : Heap} {a : Array Value} {ls : Array Slot} {st0 rest : List Value}
variable {Qc : Array Value → State → Outcome → State → Prop} {XC : String → State → State → Prop}
/-- what a body that may throw owes at its end -/
def vx_MQ (below : List Frame) (Qc : Array Value → State → Outcome → State → Prop) (XC : String → State → State → Prop) (a : Array Value) (s : State) (mc ms : Nat) (free : Addr → Prop) : State → Prop := fun t =>
  ∃ o, t.status = .running ∧ Ended t below o ∧ vx_Q Qc XC mc ms free a s o t
theorem vx_ret {g : JFrame} {mc ms : Nat} (k : W p l e R s m args below meth c H locs cells slots (MQ below Qc args s mc ms free) g) : W p l e R s m args below meth c H locs cells slots (vx_MQ below Qc XC args s mc ms free) g := by
  intro T hT X
  obtain ⟨t, a1, o, b1, b2, b3, b4⟩ := k T hT X
  exact ⟨t, a1, o, b1, b2, Or.inl ⟨b3, b4⟩⟩
/-- not caught here: it goes on to the caller -/
theorem vx_widen {g : JFrame} {q : Addr} {k n : Nat} (h1 : cells ≤ k) (h2 : slots ≤ n) (kk : vx_W p l e R s m args below meth c H locs k n Q g q) : vx_W p l e R s m args below meth c H locs cells slots Q g q := fun T hT X => kk T hT (stand_widen X h1 h2)
theorem vx_out {pc : Nat} {E : String} {ce : Cell} {q : Addr} {mc ms : Nat} (hout : ∀ x ∈ c.exceptionTable.toList, covers x pc = false) (hlocks : meth.locks = false) (hcell : H[q]? = some ce) (hv : ce.vm = .none) (hcl : s.vm.findClass E = some ce.cls)
    (hx : ∀ t : State, t.heap = H → s.vm.Alike t.vm → XC E s t) (hf : ∀ z ∈ locs, free z.base) (hc : cells ≤ mc) (hs : slots ≤ ms) :
    vx_W p l e R s m args below meth c H locs cells slots (vx_MQ below Qc XC args s mc ms free) (F0 m pc ls rest) q := by
  intro T hT X
  obtain ⟨st1, hrun, hend, hW, hsm⟩ := X.leaveThrown q (g := F0 m pc ls rest) rfl rfl rfl hout hlocks
  have hcell9 : (T.setFrames (.throwing q :: below)).heap[q]? = some ce := by
    show T.heap[q]? = some ce
    rw [hT]; exact hcell
  exact ⟨_, st1, .threw q, hrun, hend, Or.inr ⟨q, rfl, E, ce, locs, hx _ hT hW.alike, hcell9, hv, hcl, hW, hsm.mono hc hs, hf⟩⟩
theorem vx_frame {U : State} {k n : Nat} (h : s.sameButNew ({ U with vm := s.vm } : State) locs k n) : s.heap.size ≤ U.heap.size ∧ ∀ q : Nat, q < s.heap.size → (∀ z ∈ locs, z.base ≠ q) → U.heap[q]? = s.heap[q]? := by
  obtain ⟨-, h2, -, -, -, h6⟩ := h
  refine ⟨h2, fun q hq hz => ?_⟩
  obtain ⟨c9, e1, e2, e3, e4⟩ := h6 q _ (Array.getElem?_eq_getElem hq)
  have hs : c9.slots = (s.heap[q]).slots := Array.ext_getElem? fun i => e4 i fun hm => hz _ hm rfl
  have h9 : c9 = s.heap[q] := by
    rw [hs] at e2
    exact e2
  have e5 : U.heap[q]? = some c9 := e1
  rw [e5, h9, Array.getElem?_eq_getElem hq]
/-- the words of a throw but the four that speak of the heap -/
def vx_no (w : Cond) : Bool := decide (w ≠ .isRef (.static Bundle.tN "UNASSIGNED_STACK" Bundle.steD)) && decide (w ≠ .isRef (.static Bundle.tN "SUPPRESSED_SENTINEL" Bundle.listD)) && decide (w ≠ .laysStatic Bundle.tN "UNASSIGNED_STACK" Bundle.steD) && decide (w ≠ .laysStatic Bundle.tN "SUPPRESSED_SENTINEL" Bundle.listD)
def vx_at0 (own : String) (ic : Nat) (X : String) (names : List String) : List Cond := (Bundle.ownAtoms0 own ic X names).filter vx_no
def vx_atS (own : String) (ic : Nat) (X : String) (names : List String) : List Cond := (Bundle.ownAtoms own ic X names).filter vx_no
/-- a word that the tables alone decide, or a good one -/
def vx_ot (w : Cond) : Bool := w.onTables || goodWord w
theorem vx_ot_at {args a' : Array Value} {s U : State} {w : Cond} (hW : s.WarmedH U.vm) (hvm : s.vm = U.vm) (hg : vx_ot w = true) (h : w.before args s = true) : w.before a' U = true := by
  simp only [vx_ot, Bool.or_eq_true] at hg
  rcases hg with hg | hg
  · exact va_tabs hg hvm h
  · exact word_at hW (good_of_word hg) h
/-- a list's words: the good ones out of the method's own list, the others by premises of their own -/
theorem vx_hat {args : Array Value} {s : State} {L B : List Cond} (h1 : ∀ w ∈ L.filter goodWord, w.before args s = true) (h2 : ∀ w ∈ L.filter (fun w => !goodWord w), w ∈ B) (h3 : ∀ w ∈ B, w.before args s = true) : ∀ w ∈ L, w.before args s = true := by
  intro w hw
  by_cases g : goodWord w = true
  · exact h1 w (List.mem_filter.mpr ⟨hw, g⟩)
  · refine h3 w (h2 w (List.mem_filter.mpr ⟨hw, ?_⟩))
    show (!goodWord w) = true
    cases hgw : goodWord w
    · rfl
    · exact absurd hgw g
theorem vx_c {args : Array Value} {s : State} {w : Cond} {B : List Cond} (h : w.before args s = true) (t : ∀ w ∈ B, w.before args s = true) : ∀ w' ∈ w :: B, w'.before args s = true := fun w' h' => (List.mem_cons.mp h').elim (fun e => by rw [e]; exact h) (t w')
theorem vx_n {args : Array Value} {s : State} : ∀ w ∈ ([] : List Cond), w.before args s = true := fun _ h => nomatch h
theorem vx_own {args : Array Value} {s : State} {L : List Cond} (h1 : ∀ w ∈ L.filter vx_no, w.before args s = true)
    (hU : (Cond.isRef (.static Bundle.tN "UNASSIGNED_STACK" Bundle.steD)).before args s = true) (hN : (Cond.isRef (.static Bundle.tN "SUPPRESSED_SENTINEL" Bundle.listD)).before args s = true)
    (lU : (Cond.laysStatic Bundle.tN "UNASSIGNED_STACK" Bundle.steD).before args s = true) (lN : (Cond.laysStatic Bundle.tN "SUPPRESSED_SENTINEL" Bundle.listD).before args s = true) : ∀ w ∈ L, w.before args s = true := by
  intro w hw
  by_cases e1 : w = .isRef (.static Bundle.tN "UNASSIGNED_STACK" Bundle.steD)
  · rw [e1]; exact hU
  · by_cases e2 : w = .isRef (.static Bundle.tN "SUPPRESSED_SENTINEL" Bundle.listD)
    · rw [e2]; exact hN
    · by_cases e3 : w = .laysStatic Bundle.tN "UNASSIGNED_STACK" Bundle.steD
      · rw [e3]; exact lU
      · by_cases e4 : w = .laysStatic Bundle.tN "SUPPRESSED_SENTINEL" Bundle.listD
        · rw [e4]; exact lN
        · exact h1 w (List.mem_filter.mpr ⟨hw, by unfold vx_no; rw [decide_eq_true e1, decide_eq_true e2, decide_eq_true e3, decide_eq_true e4]; rfl⟩)
/-- where a static field lies, its class's statics cell in H -/
def vx_L (C n d : String) (A : Nat → Prop) (U : State) (H : Heap) : Prop := ∃ (c : ClassId) (k : Class) (i : Nat) (f : Field) (a : Nat) (cell : Cell), U.vm.findClass C = some c ∧ U.fieldFound? C n d = some (c, k, i, f) ∧ f.isStatic = true ∧ k.statics = some a ∧ H[a]? = some cell ∧ cell.vm.isStatics = true ∧ cell.cls = c ∧ f.slot < cell.slots.size ∧ k.staticTypes[f.slot]? = some f.type ∧ ¬ A a
theorem vx_L.moved {C n d : String} {A : Nat → Prop} {u U : State} {H : Heap} (hvm : u.vm.Alike U.vm) (h : vx_L C n d A u H) : vx_L C n d A U H := by
  obtain ⟨c, k, i, f, a, cell, h1, h2, h3, h4, h5, h6, h7, h8, h9, h10⟩ := h
  obtain ⟨k', hi', he⟩ := State.fieldFound?_setVm hvm h2
  exact ⟨c, k', i, f, a, cell, by rw [hvm.findClass]; exact h1, hi', h3, by rw [he]; exact h4, h5, h6, h7, h8, by rw [he]; exact h9, h10⟩
theorem vx_L.kept {C n d : String} {A : Nat → Prop} {U : State} {H H1 : Heap} (h : vx_L C n d A U H) (hq : ∀ a : Nat, a < H.size → ¬ A a → H1[a]? = H[a]?) : vx_L C n d A U H1 := by
  obtain ⟨c, k, i, f, a, cell, h1, h2, h3, h4, h5, h6, h7, h8, h9, h10⟩ := h
  exact ⟨c, k, i, f, a, cell, h1, h2, h3, h4, by rw [hq a (Array.getElem?_eq_some_iff.mp h5).1 h10]; exact h5, h6, h7, h8, h9, h10⟩
theorem vx_L.narrow {C n d : String} {A B : Nat → Prop} {U : State} {H : Heap} (h : vx_L C n d A U H) (hAB : ∀ q, B q → A q) : vx_L C n d B U H := by
  obtain ⟨c, k, i, f, a, cell, h1, h2, h3, h4, h5, h6, h7, h8, h9, h10⟩ := h
  exact ⟨c, k, i, f, a, cell, h1, h2, h3, h4, h5, h6, h7, h8, h9, fun z => h10 (hAB _ z)⟩
theorem vx_L.word {C n d : String} {A : Nat → Prop} {s : State} {args : Array Value} (h : vx_L C n d A s s.heap) : (Cond.laysStatic C n d).before args s = true := by
  obtain ⟨c, k, i, f, a, cell, h1, h2, h3, h4, h5, h6, h7, h8, h9, -⟩ := h
  show (Cond.laysStatic C n d).holds args s none s [] = true
  exact Cond.laysStatic_of h1 h2 h3 h4 h5 h6 h7 h8 h9
/-- .. and what it holds: null or some reference -/
def vx_Zq (C n d : String) (A : Nat → Prop) (U : State) (H : Heap) : Prop := va_Zq C n d A U H ∧ vx_L C n d A U H
theorem vx_Zq.moved {C n d : String} {A : Nat → Prop} {u U : State} {H : Heap} (hvm : u.vm.Alike U.vm) (h : vx_Zq C n d A u H) : vx_Zq C n d A U H := ⟨va_Zq.moved hvm h.1, vx_L.moved hvm h.2⟩
theorem vx_Zq.kept {C n d : String} {A : Nat → Prop} {U : State} {H H1 : Heap} (h : vx_Zq C n d A U H) (hq : ∀ a : Nat, a < H.size → ¬ A a → H1[a]? = H[a]?) : vx_Zq C n d A U H1 := ⟨va_Zq.kept h.1 hq, vx_L.kept h.2 hq⟩
theorem vx_Zq.narrow {C n d : String} {A B : Nat → Prop} {U : State} {H : Heap} (h : vx_Zq C n d A U H) (hAB : ∀ q, B q → A q) : vx_Zq C n d B U H := ⟨va_Zq.narrow h.1 hAB, vx_L.narrow h.2 hAB⟩
theorem vx_Zqof {args : Array Value} {s : State} {C n d : String} {A : Nat → Prop} (hl : (Cond.laysStatic C n d).before args s = true) (hini : (Cond.initialized C).before args s = true) (h : (Cond.isRef (.static C n d)).before args s = true) (hA : ∀ a : Nat, a < s.heap.size → ¬ A a) : vx_Zq C n d A s s.heap := by
  refine ⟨va_Zqof hl hini h hA, ?_⟩
  obtain ⟨c, k, i, f, a, cell, h1, h2, h3, h4, h5, h6, h7, h8, h9⟩ := Cond.laysStatic_spec hl
  exact ⟨c, k, i, f, a, cell, h1, h2, h3, h4, h5, h6, h7, h8, h9, hA a (Array.getElem?_eq_some_iff.mp h5).1⟩
theorem vx_isRef {C n d : String} {v : Value} {A : Nat → Prop} {s : State} {args : Array Value} (h : va_Z C n d v A s s.heap) (hv : v.isRef = true) : (Cond.isRef (.static C n d)).before args s = true := by
  obtain ⟨cf, kf, fi, f, a, cell, h1, h2, h3, h4, h5, h6, h7, -⟩ := h
  have he : (Term.static C n d).eval args s none [] s = some v := by
    simp [Term.eval, State.fieldNamed?, h1, h2, h4, h5, h6, h7]
  simp only [Cond.before, Cond.holds, Cond.value, he]
  cases v <;> simp_all [Value.isRef]
theorem vx_isRefq {C n d : String} {A : Nat → Prop} {s : State} {args : Array Value} (h : va_Zq C n d A s s.heap) : (Cond.isRef (.static C n d)).before args s = true := by
  rcases h with h | ⟨t, h⟩
  · exact vx_isRef h rfl
  · exact vx_isRef h rfl
/-- the same frame, seen from here: as if the method were called anew in this heap -/
theorem vx_rebase {T : State} (X : Stand p l e R s m args below meth c T locs cells slots) {R' : Room} (hf : R'.frames ≤ R.frames) (hl : R'.locals ≤ R.locals) (hc : cells + R'.cells ≤ R.cells) (hs : slots + R'.slots ≤ R.slots) :
    Stand p l e R' ((T.setVm s.vm).setFrames (.invoking m args :: below)) m args below meth c T [] 0 0 := by
  have htop : (T.setVm s.vm).topJava?.isSome := X.here.top
  have hF : ((T.setVm s.vm).setFrames (.invoking m args :: below)).frames = .invoking m args :: below := State.frames_setFrames _ (State.cur_lt_of_top htop)
  obtain ⟨g₀, hg0⟩ := Option.isSome_iff_exists.mp htop
  obtain ⟨r, hr⟩ := State.topJava?_eq_some.mp hg0
  have hl9 : e.platform.stackLimits (T.setVm s.vm).me = e.platform.stackLimits s.me := X.limits
  have hb9 : (T.setVm s.vm).me.stackBytes = s.me.stackBytes := X.bytes
  refine ⟨X.admits, X.cas, X.clock, hF, ?_, X.hears, X.method, X.code, X.here, X.tail, X.warmed, ?_, ?_, ?_⟩
  · have h := X.room
    have hU : ((T.setVm s.vm).setFrames (.invoking m args :: below)).localsInUse = s.localsInUse := by
      rw [State.localsInUse_invoking hF (meth := meth) (c := c) X.method X.code, State.localsInUse_invoking X.frames X.method X.code]
    simp only [State.hasRoom, Bool.and_eq_true, decide_eq_true_eq] at h ⊢
    obtain ⟨⟨⟨⟨h1, h2, h3, h4, h5, h6⟩, h7⟩, h8⟩, h9⟩ := h
    rw [X.frames, List.length_cons] at h2 h3
    have q1 := X.heapSize
    have q2 := X.used
    simp only [hF, hU, List.length_cons, State.stackLimits_setFrames, State.stackBytes_setFrames, hl9, hb9]
    refine ⟨⟨⟨⟨by omega, by omega, by omega, by omega, by omega, h6⟩, ?_⟩, ?_⟩, X.book⟩
    · show T.heap.size + R'.cells ≤ e.platform.maxCells
      omega
    · show T.slotsUsed + R'.slots ≤ e.platform.maxSlots
      omega
  · rw [State.stackLimits_setFrames]; rfl
  · rw [State.stackBytes_setFrames]; rfl
  · refine ⟨?_, Nat.le_refl _, Nat.le_refl _, ?_, ?_, fun a c9 h9 => ⟨c9, h9, rfl, rfl, fun _ _ => rfl⟩⟩
    · obtain ⟨t, ht, -⟩ := State.frames_cons hr
      show T.setVm s.vm = { ((T.setVm s.vm).setFrames (.invoking m args :: below)).setFrames (T.setVm s.vm).frames with heap := T.heap, slotsUsed := T.slotsUsed }
      rw [State.setFrames_setFrames, State.setFrames_self ht]
      rfl
    · show T.slotsUsed = T.slotsUsed + ((T.heap.toList.drop T.heap.size).map (·.slots.size)).sum
      rw [List.drop_eq_nil_of_le (Nat.le_of_eq Array.length_toList)]
      rfl
    · show ((T.heap.toList.drop T.heap.size).map (·.slots.size)).sum ≤ 0
      rw [List.drop_eq_nil_of_le (Nat.le_of_eq Array.length_toList)]
      exact Nat.le_refl _
/-- 'throw new E()': new; dup; invokespecial; athrow -/
theorem vx_throw0 {cc : ByteArray} {pc : Nat} (hexec : p.tables.exec = Jvm.exec) (hb : c.code = cc) (hl : l.stackTraces = false) {own cls : String} {names : List String} {ik ic mc ms : Nat} {A : Nat → Prop}
    (hown : s.vm.findClass own = some m.cls) (hcls : Bundle.fit cls = true) (hnames : ∀ n ∈ names, Bundle.fit n = true)
    (hk : (Cond.classLink own ik cls).before args s = true) (hini : (Cond.initialized cls).before args s = true) (hat : ∀ w ∈ vx_at0 own ic cls names, w.before args s = true)
    (hgood : ∀ w ∈ Cond.classLink own ik cls :: Cond.initialized cls :: vx_at0 own ic cls names, vx_ot w = true)
    (hU : vx_Zq Bundle.tN "UNASSIGNED_STACK" Bundle.steD A s s.heap) (hN : vx_Zq Bundle.tN "SUPPRESSED_SENTINEL" Bundle.listD A s s.heap) (hS : va_S A s.heap H locs) (hsize : ls.size = c.maxLocals)
    (d0 : decode cc pc = .ok (.new ik, 3)) (d3 : decode cc (pc + 3) = .ok (.dup, 1)) (d4 : decode cc (pc + 4) = .ok (.invokespecial ic, 3)) (d7 : decode cc (pc + 7) = .ok (.athrow, 1))
    (hout : ∀ x ∈ c.exceptionTable.toList, covers x (pc + 7) = false)
    (hRframes : names.length + 3 < R.frames) (hRlocals : (rest.map fun v => v.category).sum + (13 * (names.length + 1) + 42) ≤ R.locals) (hRcells : cells + 1 ≤ R.cells) (hRslots : slots + 6 ≤ R.slots) (hlocks : meth.locks = false)
    (hx : ∀ t : State, s.vm.Alike t.vm → H.size ≤ t.heap.size → (∀ q : Nat, q < H.size → t.heap[q]? = H[q]?) → XC cls s t)
    (hf : ∀ z ∈ locs, free z.base) (hc : cells + 1 ≤ mc) (hs : slots + 6 ≤ ms) :
    W p l e R s m args below meth c H locs cells slots (vx_MQ below Qc XC args s mc ms free) (F0 m pc ls rest) := by
  intro T hT X
  have htr : e.platform.stackTraces = false := (show e.platform.stackTraces = l.stackTraces by rw [X.admits.platform]).trans hl
  have Y := vx_rebase X (R' := { frames := R.frames, locals := R.locals, cells := 1, slots := 6 }) (Nat.le_refl _) (Nat.le_refl _) hRcells hRslots
  obtain ⟨s', hA⟩ : ∃ z, z = (T.setVm s.vm).setFrames (.invoking m args :: below) := ⟨_, rfl⟩
  rw [← hA] at Y
  have hvm : s'.vm = s.vm := by rw [hA]; rfl
  have hhp : s'.heap = H := by rw [hA]; exact hT
  have hW0 : s.WarmedH s'.vm := by rw [hvm]; exact State.WarmedH.refl s
  have hat' : ∀ w ∈ vx_at0 own ic cls names, w.before args s' = true := fun w hw => vx_ot_at hW0 hvm.symm (hgood w (List.mem_cons_of_mem _ (List.mem_cons_of_mem _ hw))) (hat w hw)
  have hk' : (Cond.classLink own ik cls).before args s' = true := vx_ot_at hW0 hvm.symm (hgood _ List.mem_cons_self) hk
  have hini' : (Cond.initialized cls).before args s' = true := vx_ot_at hW0 hvm.symm (hgood _ (List.mem_cons_of_mem _ List.mem_cons_self)) hini
  have hU' : vx_Zq Bundle.tN "UNASSIGNED_STACK" Bundle.steD A s' s'.heap := by rw [hhp]; exact vx_Zq.moved hW0.alike (hU.kept hS.2.1)
  have hN' : vx_Zq Bundle.tN "SUPPRESSED_SENTINEL" Bundle.listD A s' s'.heap := by rw [hhp]; exact vx_Zq.moved hW0.alike (hN.kept hS.2.1)
  have h : ∀ w ∈ Bundle.ownAtoms0 own ic cls names, w.before args s' = true := vx_own hat' (vx_isRefq hU'.1) (vx_isRefq hN'.1) hU'.2.word hN'.2.word
  have hown' : s'.vm.findClass own = some m.cls := by rw [hvm]; exact hown
  have hins : (Cond.instantiable cls 6).before args s' = true := h _ (by simp [Bundle.ownAtoms0])
  obtain ⟨vm₁, cX, kX, hfX, hkX, -, -, X₁, st1⟩ := Y.newCold hexec (own := own) (C := cls) (index := ik) (n := 6) hown' hk' hins hini'
    (g := F0 m pc ls rest) rfl (by rw [hb]; exact d0) (Nat.le_refl _) (Nat.le_refl _)
  generalize hT1 : (T.setVm vm₁).pushCell { cls := cX, slots := kX.instanceTypes.map defaultValue, vm := .none } = T1 at X₁ st1
  have hcat : (Value.ref T.heap.size).category = 1 := rfl
  have hcellA : T1.heap[T.heap.size]? = some (freshCell cX kX) := by rw [← hT1]; exact State.heap_pushCell_size _ _
  have d3' : decode c.code (pc + 3) = .ok (.dup, 1) := by rw [hb]; exact d3
  obtain ⟨U, hsteps, hrun, hend, hW, hsame, ce, hce, hO⟩ := X₁.ctorThrow0 hexec htr (own := own) (cls := cls) (names := names) (ic := ic) hown' hcls hnames h (fun x hx => nomatch hx) hfX hkX hcellA (by rw [hhp, hT]; exact Nat.le_refl _)
    (g := { method := m, pc := pc + 4, locals := ls, stack := .ref T.heap.size :: .ref T.heap.size :: rest, locked := none }) rfl hsize rfl rfl (rest := rest) rfl
    (by rw [hb]; exact d4) (by rw [hb]; exact d7) hout hRframes (by simp only [List.map_cons, List.sum_cons, hcat]; omega) hlocks
  obtain ⟨f1, f2⟩ := vx_frame hsame
  rw [hhp] at f1 f2
  have hWs : s.WarmedH U.vm := State.WarmedH.trans hW0 hW
  have hcl : s.vm.findClass cls = some ce.cls := by
    have h9 := hO.cls
    rw [hvm] at h9
    exact h9
  have hall : s.sameButNew ({ U with vm := s.vm } : State) locs mc ms := by
    subst hA
    obtain ⟨e1, e2⟩ := hsame
    rw [State.setFrames_setFrames] at e1
    have h2 : (T.setVm s.vm).sameButNew ({ U with vm := s.vm } : State) [] (0 + 1) (0 + 6) := ⟨e1, e2⟩
    have h3 := X.same.trans h2
    rw [List.append_nil] at h3
    exact h3.mono hc hs
  refine ⟨U, ?_, .threw T.heap.size, hrun, hend, Or.inr ⟨T.heap.size, rfl, cls, ce, locs, hx U hWs.alike f1 (fun q hq => f2 q hq (fun z hz => nomatch hz)), hce, hO.vm, hcl, hWs, hall, hf⟩⟩
  refine st1 _ ?_
  show Steps p.tables e below (T1.setTop { method := m, pc := pc + 3, locals := ls, stack := .ref T.heap.size :: rest, locked := none }) _
  jvm_step X₁.here [X₁.here.top, hexec, d3', Value.category]
  exact hsteps
/-- 'throw new E("text")': new; dup; ldc; invokespecial; athrow -/
theorem vx_throwS {cc : ByteArray} {pc : Nat} (hexec : p.tables.exec = Jvm.exec) (hb : c.code = cc) (hl : l.stackTraces = false) {own cls text : String} {names : List String} {ik is ic mc ms sa : Nat} {A : Nat → Prop}
    (hown : s.vm.findClass own = some m.cls) (hcls : Bundle.fit cls = true) (hnames : ∀ n ∈ names, Bundle.fit n = true)
    (hk : (Cond.classLink own ik cls).before args s = true) (hini : (Cond.initialized cls).before args s = true) (hstr : vk_R own is text sa s) (hat : ∀ w ∈ vx_atS own ic cls names, w.before args s = true)
    (hgood : ∀ w ∈ Cond.classLink own ik cls :: Cond.initialized cls :: vx_atS own ic cls names, vx_ot w = true)
    (hU : vx_Zq Bundle.tN "UNASSIGNED_STACK" Bundle.steD A s s.heap) (hN : vx_Zq Bundle.tN "SUPPRESSED_SENTINEL" Bundle.listD A s s.heap) (hS : va_S A s.heap H locs) (hsize : ls.size = c.maxLocals)
    (d0 : decode cc pc = .ok (.new ik, 3)) (d3 : decode cc (pc + 3) = .ok (.dup, 1)) (d4 : decode cc (pc + 4) = .ok (.ldc is, 2)) (d6 : decode cc (pc + 6) = .ok (.invokespecial ic, 3)) (d9 : decode cc (pc + 9) = .ok (.athrow, 1))
    (hout : ∀ x ∈ c.exceptionTable.toList, covers x (pc + 9) = false)
    (hRframes : names.length + 3 < R.frames) (hRlocals : (rest.map fun v => v.category).sum + (13 * (names.length + 1) + 43) ≤ R.locals) (hRcells : cells + 1 ≤ R.cells) (hRslots : slots + 6 ≤ R.slots) (hlocks : meth.locks = false)
    (hx : ∀ t : State, s.vm.Alike t.vm → H.size ≤ t.heap.size → (∀ q : Nat, q < H.size → t.heap[q]? = H[q]?) → XC cls s t)
    (hf : ∀ z ∈ locs, free z.base) (hc : cells + 1 ≤ mc) (hs : slots + 6 ≤ ms) :
    W p l e R s m args below meth c H locs cells slots (vx_MQ below Qc XC args s mc ms free) (F0 m pc ls rest) := by
  intro T hT X
  have htr : e.platform.stackTraces = false := (show e.platform.stackTraces = l.stackTraces by rw [X.admits.platform]).trans hl
  have Y := vx_rebase X (R' := { frames := R.frames, locals := R.locals, cells := 1, slots := 6 }) (Nat.le_refl _) (Nat.le_refl _) hRcells hRslots
  obtain ⟨s', hA⟩ : ∃ z, z = (T.setVm s.vm).setFrames (.invoking m args :: below) := ⟨_, rfl⟩
  rw [← hA] at Y
  have hvm : s'.vm = s.vm := by rw [hA]; rfl
  have hhp : s'.heap = H := by rw [hA]; exact hT
  have hW0 : s.WarmedH s'.vm := by rw [hvm]; exact State.WarmedH.refl s
  have hat' : ∀ w ∈ vx_atS own ic cls names, w.before args s' = true := fun w hw => vx_ot_at hW0 hvm.symm (hgood w (List.mem_cons_of_mem _ (List.mem_cons_of_mem _ hw))) (hat w hw)
  have hk' : (Cond.classLink own ik cls).before args s' = true := vx_ot_at hW0 hvm.symm (hgood _ List.mem_cons_self) hk
  have hini' : (Cond.initialized cls).before args s' = true := vx_ot_at hW0 hvm.symm (hgood _ (List.mem_cons_of_mem _ List.mem_cons_self)) hini
  have hU' : vx_Zq Bundle.tN "UNASSIGNED_STACK" Bundle.steD A s' s'.heap := by rw [hhp]; exact vx_Zq.moved hW0.alike (hU.kept hS.2.1)
  have hN' : vx_Zq Bundle.tN "SUPPRESSED_SENTINEL" Bundle.listD A s' s'.heap := by rw [hhp]; exact vx_Zq.moved hW0.alike (hN.kept hS.2.1)
  have h : ∀ w ∈ Bundle.ownAtoms own ic cls names, w.before args s' = true := vx_own hat' (vx_isRefq hU'.1) (vx_isRefq hN'.1) hU'.2.word hN'.2.word
  have hown' : s'.vm.findClass own = some m.cls := by rw [hvm]; exact hown
  have hins : (Cond.instantiable cls 6).before args s' = true := h _ (by simp [Bundle.ownAtoms])
  obtain ⟨vm₁, cX, kX, hfX, hkX, -, -, X₁, st1⟩ := Y.newCold hexec (own := own) (C := cls) (index := ik) (n := 6) hown' hk' hins hini'
    (g := F0 m pc ls rest) rfl (by rw [hb]; exact d0) (Nat.le_refl _) (Nat.le_refl _)
  generalize hT1 : (T.setVm vm₁).pushCell { cls := cX, slots := kX.instanceTypes.map defaultValue, vm := .none } = T1 at X₁ st1
  have hcat : (Value.ref T.heap.size).category = 1 := rfl
  have hcellA : T1.heap[T.heap.size]? = some (freshCell cX kX) := by rw [← hT1]; exact State.heap_pushCell_size _ _
  have d3' : decode c.code (pc + 3) = .ok (.dup, 1) := by rw [hb]; exact d3
  have d4' : decode c.code (pc + 4) = .ok (.ldc is, 2) := by rw [hb]; exact d4
  have hstr' : vk_R own is text sa s' := vk_R.warm hW0 hstr
  obtain ⟨U, hsteps, hrun, hend, hW, hsame, ce, hce, hO⟩ := X₁.ctorThrowS hexec htr (own := own) (cls := cls) (names := names) (ic := ic) hown' hcls hnames h (fun x hx => nomatch hx) hfX hkX hcellA (by rw [hhp, hT]; exact Nat.le_refl _) (msg := .ref sa) rfl
    (g := { method := m, pc := pc + 6, locals := ls, stack := .ref sa :: .ref T.heap.size :: .ref T.heap.size :: rest, locked := none }) rfl hsize rfl rfl (rest := rest) rfl
    (by rw [hb]; exact d6) (by rw [hb]; exact d9) hout hRframes (by simp only [List.map_cons, List.sum_cons, hcat]; omega) hlocks
  obtain ⟨f1, f2⟩ := vx_frame hsame
  rw [hhp] at f1 f2
  have hWs : s.WarmedH U.vm := State.WarmedH.trans hW0 hW
  have hcl : s.vm.findClass cls = some ce.cls := by
    have h9 := hO.cls
    rw [hvm] at h9
    exact h9
  have hall : s.sameButNew ({ U with vm := s.vm } : State) locs mc ms := by
    subst hA
    obtain ⟨e1, e2⟩ := hsame
    rw [State.setFrames_setFrames] at e1
    have h2 : (T.setVm s.vm).sameButNew ({ U with vm := s.vm } : State) [] (0 + 1) (0 + 6) := ⟨e1, e2⟩
    have h3 := X.same.trans h2
    rw [List.append_nil] at h3
    exact h3.mono hc hs
  refine ⟨U, ?_, .threw T.heap.size, hrun, hend, Or.inr ⟨T.heap.size, rfl, cls, ce, locs, hx U hWs.alike f1 (fun q hq => f2 q hq (fun z hz => nomatch hz)), hce, hO.vm, hcl, hWs, hall, hf⟩⟩
  refine st1 _ ?_
  show Steps p.tables e below (T1.setTop { method := m, pc := pc + 3, locals := ls, stack := .ref T.heap.size :: rest, locked := none }) _
  jvm_step X₁.here [X₁.here.top, hexec, d3', Value.category]
  exact X₁.ldcString hexec (own := own) (text := text) (index := is) (a := sa) hown' hstr'.1 hstr'.2
    (g := { method := m, pc := pc + 4, locals := ls, stack := .ref T.heap.size :: .ref T.heap.size :: rest, locked := none }) rfl d4' _ hsteps
/-- 'throw new E("text")', the text by a wide index -/
theorem vx_throwSW {cc : ByteArray} {pc : Nat} (hexec : p.tables.exec = Jvm.exec) (hb : c.code = cc) (hl : l.stackTraces = false) {own cls text : String} {names : List String} {ik is ic mc ms sa : Nat} {A : Nat → Prop}
    (hown : s.vm.findClass own = some m.cls) (hcls : Bundle.fit cls = true) (hnames : ∀ n ∈ names, Bundle.fit n = true)
    (hk : (Cond.classLink own ik cls).before args s = true) (hini : (Cond.initialized cls).before args s = true) (hstr : vk_R own is text sa s) (hat : ∀ w ∈ vx_atS own ic cls names, w.before args s = true)
    (hgood : ∀ w ∈ Cond.classLink own ik cls :: Cond.initialized cls :: vx_atS own ic cls names, vx_ot w = true)
    (hU : vx_Zq Bundle.tN "UNASSIGNED_STACK" Bundle.steD A s s.heap) (hN : vx_Zq Bundle.tN "SUPPRESSED_SENTINEL" Bundle.listD A s s.heap) (hS : va_S A s.heap H locs) (hsize : ls.size = c.maxLocals)
    (d0 : decode cc pc = .ok (.new ik, 3)) (d3 : decode cc (pc + 3) = .ok (.dup, 1)) (d4 : decode cc (pc + 4) = .ok (.ldc_w is, 3)) (d7 : decode cc (pc + 7) = .ok (.invokespecial ic, 3)) (d10 : decode cc (pc + 10) = .ok (.athrow, 1))
    (hout : ∀ x ∈ c.exceptionTable.toList, covers x (pc + 10) = false)
    (hRframes : names.length + 3 < R.frames) (hRlocals : (rest.map fun v => v.category).sum + (13 * (names.length + 1) + 43) ≤ R.locals) (hRcells : cells + 1 ≤ R.cells) (hRslots : slots + 6 ≤ R.slots) (hlocks : meth.locks = false)
    (hx : ∀ t : State, s.vm.Alike t.vm → H.size ≤ t.heap.size → (∀ q : Nat, q < H.size → t.heap[q]? = H[q]?) → XC cls s t)
    (hf : ∀ z ∈ locs, free z.base) (hc : cells + 1 ≤ mc) (hs : slots + 6 ≤ ms) :
    W p l e R s m args below meth c H locs cells slots (vx_MQ below Qc XC args s mc ms free) (F0 m pc ls rest) := by
  intro T hT X
  have htr : e.platform.stackTraces = false := (show e.platform.stackTraces = l.stackTraces by rw [X.admits.platform]).trans hl
  have Y := vx_rebase X (R' := { frames := R.frames, locals := R.locals, cells := 1, slots := 6 }) (Nat.le_refl _) (Nat.le_refl _) hRcells hRslots
  obtain ⟨s', hA⟩ : ∃ z, z = (T.setVm s.vm).setFrames (.invoking m args :: below) := ⟨_, rfl⟩
  rw [← hA] at Y
  have hvm : s'.vm = s.vm := by rw [hA]; rfl
  have hhp : s'.heap = H := by rw [hA]; exact hT
  have hW0 : s.WarmedH s'.vm := by rw [hvm]; exact State.WarmedH.refl s
  have hat' : ∀ w ∈ vx_atS own ic cls names, w.before args s' = true := fun w hw => vx_ot_at hW0 hvm.symm (hgood w (List.mem_cons_of_mem _ (List.mem_cons_of_mem _ hw))) (hat w hw)
  have hk' : (Cond.classLink own ik cls).before args s' = true := vx_ot_at hW0 hvm.symm (hgood _ List.mem_cons_self) hk
  have hini' : (Cond.initialized cls).before args s' = true := vx_ot_at hW0 hvm.symm (hgood _ (List.mem_cons_of_mem _ List.mem_cons_self)) hini
  have hU' : vx_Zq Bundle.tN "UNASSIGNED_STACK" Bundle.steD A s' s'.heap := by rw [hhp]; exact vx_Zq.moved hW0.alike (hU.kept hS.2.1)
  have hN' : vx_Zq Bundle.tN "SUPPRESSED_SENTINEL" Bundle.listD A s' s'.heap := by rw [hhp]; exact vx_Zq.moved hW0.alike (hN.kept hS.2.1)
  have h : ∀ w ∈ Bundle.ownAtoms own ic cls names, w.before args s' = true := vx_own hat' (vx_isRefq hU'.1) (vx_isRefq hN'.1) hU'.2.word hN'.2.word
  have hown' : s'.vm.findClass own = some m.cls := by rw [hvm]; exact hown
  have hins : (Cond.instantiable cls 6).before args s' = true := h _ (by simp [Bundle.ownAtoms])
  obtain ⟨vm₁, cX, kX, hfX, hkX, -, -, X₁, st1⟩ := Y.newCold hexec (own := own) (C := cls) (index := ik) (n := 6) hown' hk' hins hini'
    (g := F0 m pc ls rest) rfl (by rw [hb]; exact d0) (Nat.le_refl _) (Nat.le_refl _)
  generalize hT1 : (T.setVm vm₁).pushCell { cls := cX, slots := kX.instanceTypes.map defaultValue, vm := .none } = T1 at X₁ st1
  have hcat : (Value.ref T.heap.size).category = 1 := rfl
  have hcellA : T1.heap[T.heap.size]? = some (freshCell cX kX) := by rw [← hT1]; exact State.heap_pushCell_size _ _
  have d3' : decode c.code (pc + 3) = .ok (.dup, 1) := by rw [hb]; exact d3
  have d4' : decode c.code (pc + 4) = .ok (.ldc_w is, 3) := by rw [hb]; exact d4
  have hstr' : vk_R own is text sa s' := vk_R.warm hW0 hstr
  obtain ⟨U, hsteps, hrun, hend, hW, hsame, ce, hce, hO⟩ := X₁.ctorThrowS hexec htr (own := own) (cls := cls) (names := names) (ic := ic) hown' hcls hnames h (fun x hx => nomatch hx) hfX hkX hcellA (by rw [hhp, hT]; exact Nat.le_refl _) (msg := .ref sa) rfl
    (g := { method := m, pc := pc + 7, locals := ls, stack := .ref sa :: .ref T.heap.size :: .ref T.heap.size :: rest, locked := none }) rfl hsize rfl rfl (rest := rest) rfl
    (by rw [hb]; exact d7) (by rw [hb]; exact d10) hout hRframes (by simp only [List.map_cons, List.sum_cons, hcat]; omega) hlocks
  obtain ⟨f1, f2⟩ := vx_frame hsame
  rw [hhp] at f1 f2
  have hWs : s.WarmedH U.vm := State.WarmedH.trans hW0 hW
  have hcl : s.vm.findClass cls = some ce.cls := by
    have h9 := hO.cls
    rw [hvm] at h9
    exact h9
  have hall : s.sameButNew ({ U with vm := s.vm } : State) locs mc ms := by
    subst hA
    obtain ⟨e1, e2⟩ := hsame
    rw [State.setFrames_setFrames] at e1
    have h2 : (T.setVm s.vm).sameButNew ({ U with vm := s.vm } : State) [] (0 + 1) (0 + 6) := ⟨e1, e2⟩
    have h3 := X.same.trans h2
    rw [List.append_nil] at h3
    exact h3.mono hc hs
  refine ⟨U, ?_, .threw T.heap.size, hrun, hend, Or.inr ⟨T.heap.size, rfl, cls, ce, locs, hx U hWs.alike f1 (fun q hq => f2 q hq (fun z hz => nomatch hz)), hce, hO.vm, hcl, hWs, hall, hf⟩⟩
  refine st1 _ ?_
  show Steps p.tables e below (T1.setTop { method := m, pc := pc + 3, locals := ls, stack := .ref T.heap.size :: rest, locked := none }) _
  jvm_step X₁.here [X₁.here.top, hexec, d3', Value.category]
  exact X₁.ldcStringW hexec (own := own) (text := text) (index := is) (a := sa) hown' hstr'.1 hstr'.2
    (g := { method := m, pc := pc + 4, locals := ls, stack := .ref T.heap.size :: .ref T.heap.size :: rest, locked := none }) rfl d4' _ hsteps
end Ends
section Bodies
variable {l : Launch}
theorem vx_ofW {y : MethodName} {ws ws' : List Cond} {rm : Room} {Pc : Array Value → State → Prop} {Qc : Array Value → State → Outcome → State → Prop} {XC : String → State → State → Prop} {mc ms : Nat} {free : Addr → Prop} {cc : ByteArray} {maxL : Nat} {ret : Option FieldType}
    (hy : plainName y.cls = true) (hw : ws = Cond.code y cc maxL ret :: ws')
    (body : ∀ p e s m args below meth c s₁, BodyLoose p l y (headSpec ws rm) cc maxL ret e s m args below meth c s₁ → c.maxLocals = maxL → (∀ x ∈ c.exceptionTable.toList, False) → Pc args s →
      W p l e (headSpec ws rm).room s m args below meth c s.heap [] 0 0 (vx_MQ below Qc XC args s mc ms free) (entryFrame m args maxL)) : vx_Met l y ws rm Pc Qc XC mc ms free := by
  refine MetFree.of_bodyS (code := cc) (maxLocals := maxL) (ret := ret) hy ?_ ?_
  · intro args s m h hn
    obtain ⟨meth, c, h1, h2, h3, h4, h5, h6, -, -⟩ := Cond.code_spec hn (atoms_spec (ws := ws) h _ (by rw [hw]; exact List.mem_cons_self))
    exact ⟨meth, c, h1, h2, h3, h4, h5, h6⟩
  · intro p e s m args below meth c s₁ B hml hP _
    have hh0 : s₁.heap = s.heap := by rw [B.state]; rfl
    have ht : ∀ x ∈ c.exceptionTable.toList, False := by
      obtain ⟨meth9, c9, h1, h2, -, -, -, -, h7, -⟩ := Cond.code_spec B.named (atoms_spec (ws := ws) B.pre _ (by rw [hw]; exact List.mem_cons_self))
      cases Option.some.inj (h1.symm.trans B.method)
      cases Option.some.inj (h2.symm.trans (Stand.of_body B).code)
      intro x hx
      rw [Array.isEmpty_iff.mp h7] at hx
      cases hx
    obtain ⟨t, a1, o, b1, b2, b3⟩ := body p e s m args below meth c s₁ B hml ht hP s₁ hh0 (Stand.of_body B)
    exact ⟨t, o, a1, b1, b2, b3⟩
/-- the table of a body with handlers -/
theorem vx_table {p : Program} {x y : MethodName} {S : Spec} {cc bytes : ByteArray} {maxL maxL' : Nat} {ret ret' : Option FieldType} {e : Env} {s s₁ : State} {m : MethodId} {args : Array Value} {below : List Frame} {meth : Method} {c : Code} {hh : List (Nat × Nat × Nat × Nat)}
    (B : BodyLoose p l y S cc maxL ret e s m args below meth c s₁) (h : (Cond.codeWith y bytes maxL' ret' hh).before args s = true) : c.exceptionTable.toList = tableOf hh := by
  obtain ⟨m9, meth9, c9, hn9, h1, h2, -, -, h6, -⟩ := Cond.codeWith_spec h
  cases Option.some.inj (hn9.symm.trans B.named)
  cases Option.some.inj (h1.symm.trans B.method)
  cases Option.some.inj (h2.symm.trans (Stand.of_body B).code)
  rw [← h6, table_eq]
end Bodies
end VXA
/-! ===== END ===== -/
/-! ===== BEGIN a static call of a method with an exception table ===== -/
section VXS
variable {p : Program} {l : Launch} {e : Env} {R : Room} {s : State} {m : MethodId} {args : Array Value} {below : List Frame} {meth : Method} {c : Code} {T : State} {H : Heap} {locs : List Loc} {cells slots : Nat}
abbrev vx_CSW (R : Room) (s : State) (args : Array Value) (own : String) (index : Nat) (y : MethodName) (bytes : ByteArray) (maxL : Nat) (ret : Option FieldType) (hh : List (Nat × Nat × Nat × Nat)) (ws : List Cond) (rm : Room) (mc ms n : Nat) : Prop :=
  (rm.cells = mc ∧ rm.slots = ms ∧ rm.frames + 1 ≤ R.frames ∧ 8 + (maxL + 11) + rm.locals ≤ R.locals ∧ (∀ w ∈ ws, ∀ (a' : Array Value) (U : State), s.WarmedH U.vm → w.before a' U = true) ∧ Cond.codeWith y bytes maxL ret hh ∈ ws) ∧
  (Cond.codeWith y bytes maxL ret hh).before args s = true ∧ (Cond.initialized y.cls).before args s = true ∧ (y.cls ≠ "java/lang/invoke/MethodHandle" ∧ y.cls ≠ "java/lang/invoke/VarHandle") ∧
  (∀ sig, parseMethodDescriptor y.desc = some sig → n = sig.parameters.length) ∧ (Cond.methodLink own index y).before args s = true ∧ (Cond.static y).before args s = true
theorem vx_cwSW {own : String} {index maxL mc ms : Nat} {y : MethodName} {bytes : ByteArray} {ret : Option FieldType} {hh : List (Nat × Nat × Nat × Nat)} {Ts ws ws' : List Cond} {rm : Room} (n : Nat) (ht : ∀ w ∈ Ts, w.before args s = true) (hT : GoodIn Ts (va_wsS own index y ws)) (hw : ws = Cond.codeWith y bytes maxL ret hh :: ws') (hrc : rm.cells = mc) (hrs : rm.slots = ms)
    (hd : y.cls ≠ "java/lang/invoke/MethodHandle" ∧ y.cls ≠ "java/lang/invoke/VarHandle" ∧ (parseMethodDescriptor y.desc).map (fun d => d.parameters.length) = some n) (hR : rm.frames + 1 ≤ R.frames ∧ 8 + (maxL + 11) + rm.locals ≤ R.locals) :
    vx_CSW R s args own index y bytes maxL ret hh ws rm mc ms n := by
  have ok : ∀ w ∈ va_wsS own index y ws, w.before args s = true := fun w h => ht w (hT w h).1
  have hG : GoodIn Ts ws := fun w h => hT w (by unfold va_wsS; exact List.mem_append_right _ h)
  have hc : Cond.codeWith y bytes maxL ret hh ∈ ws := by rw [hw]; exact List.mem_cons_self
  refine ⟨⟨hrc, hrs, hR.1, hR.2, pay_in ht hG, hc⟩, ht _ (hG _ hc).1, ok _ (by simp [va_wsS]), ⟨hd.1, hd.2.1⟩, fun sig h => ?_, ok _ (by simp [va_wsS]), ok _ (by simp [va_wsS])⟩
  have h2 := hd.2.2
  rw [h] at h2
  exact (Option.some.inj h2).symm
theorem vx_callSW (X : Stand p l e R s m args below meth c T locs cells slots) (hexec : p.tables.exec = Jvm.exec) {own : String} {index : Nat} {y : MethodName} {bytes : ByteArray} {maxL : Nat} {ret : Option FieldType} {hh : List (Nat × Nat × Nat × Nat)}
    (hown : s.vm.findClass own = some m.cls) (hlink : (Cond.methodLink own index y).before args s = true) (hstat : (Cond.static y).before args s = true) (hinit : (Cond.initialized y.cls).before args s = true)
    (hcode : (Cond.codeWith y bytes maxL ret hh).before args s = true) (hy : y.cls ≠ "java/lang/invoke/MethodHandle" ∧ y.cls ≠ "java/lang/invoke/VarHandle")
    {W9 : Nat} {Pre : Pt → Array Value → Prop} {Post : Pt → Array Value → Option Value → Pt → Prop} (hK : Back l R p e below s args y 3 W9 Pre Post)
    {g : JFrame} (hg : g.method = m) (hsize : g.locals.size = c.maxLocals) {argsL rest : List Value} (hlen : ∀ sig, parseMethodDescriptor y.desc = some sig → argsL.length = sig.parameters.length)
    (hstack : g.stack = argsL.reverse ++ rest) (hW : 2 * g.monitorRoom + (rest.map fun v => v.category).sum ≤ W9) (hdg : decode c.code g.pc = .ok (.invokestatic index, 3))
    (hpre : ∀ vm₁, s.WarmedH vm₁ → Pre ⟨T.setVm vm₁, locs, cells, slots⟩ argsL.toArray) :
    ∃ (v : Option Value) (vm₁ : Vm) (B : Pt), s.WarmedH vm₁ ∧ Stand p l e R s m args below meth c B.U B.locs B.cells B.slots ∧ Post ⟨T.setVm vm₁, locs, cells, slots⟩ argsL.toArray v B ∧
      ∀ target, Steps p.tables e below (B.U.setTop { g with pc := g.pc + 3, stack := v.toList ++ rest }) target → Steps p.tables e below (T.setTop g) target := by
  obtain ⟨mk, methM, cM, hnamed, hmethM, -, -, -, -, -, -, hsigM⟩ := Cond.codeWith_spec hcode
  have hstatic : methM.isStatic = true := Cond.static_spec hnamed hmethM hstat
  obtain ⟨kP, hkP, -⟩ := className_of_methodNamed hnamed
  have hinitP : kP.init = .initialized := Cond.initialized_spec (findClass_of_methodNamed hnamed) hkP hinit
  obtain ⟨vm₁, X₁, hstep₁⟩ := X.invokestatic hexec hown hlink hnamed hmethM hstatic hkP hinitP hy (g := g) hg (argsL := argsL) (rest := rest) (hlen _ hsigM) hstack hdg
  obtain ⟨v, B, X', hpost, hsteps⟩ := hK m meth c ⟨T.setVm vm₁, locs, cells, slots⟩ { g with stack := rest } (.invokestatic index) mk argsL.toArray X₁ hg hsize hdg hW (X₁.named hnamed) (hpre vm₁ X₁.warmed)
  exact ⟨v, vm₁, B, X₁.warmed, X', hpost, fun target h => hstep₁ _ fun acts => by rw [doInvoke_state]; exact hsteps.trans h⟩
theorem vx_runSW {y : MethodName} {bytes cc : ByteArray} {maxL nL mc ms n index : Nat} {ret : Option FieldType} {hh : List (Nat × Nat × Nat × Nat)} {ws : List Cond} {rm : Room} {Pc : Array Value → State → Prop} {Qc : Array Value → State → Outcome → State → Prop} {free : Addr → Prop} {Ts : List Cond} {own : String} {As rest : List Value} {g : JFrame}
    (S : CallFix p m c cc nL s args Ts own) (hM : Met l y ws rm Pc Qc mc ms free) (cw : vx_CSW R s args own index y bytes maxL ret hh ws rm mc ms n) (hp : PreS s H Pc As)
    (hg : g.method = m) (hn : As.length = n) (hsize : g.locals.size = nL) (hstack : g.stack = As.reverse ++ rest) (hW : 2 * g.monitorRoom + (rest.map fun v => v.category).sum ≤ 8) (hdg : decode cc g.pc = .ok (.invokestatic index, 3)) (hf : cells + mc ≤ R.cells ∧ slots + ms ≤ R.slots) :
    va_Run p l e R s m args below meth c H locs cells slots mc ms g rest (Qc As.toArray) (free) := by
  obtain ⟨⟨hrc, hrs, hfr, hlo, hws, hcw⟩, hcode, hini, hy, hlen, hl, hstt⟩ := cw
  have hK : Back l R p e below s args y 3 8 (PreOf R mc ms Pc) (PostOf Qc mc ms free) := va_backW (hh := hh) (bytes := bytes) (maxL := maxL) (ret := ret) hM hp.1 hrc hrs hfr hlo hws hcw (fun a' U hW => word_at hW (Or.inl (by first | rfl | simp [Cond.onTables, Cond.keeps, Cond.steady])) hini)
  obtain ⟨hx, hb, hml, ho, -⟩ := S
  intro T hT X
  obtain ⟨v, vm₁, ⟨U', l2, c2, s2⟩, hW₁, X', ⟨g', mk, t, L, e1, e2, hq, h1, hL, h2, h3⟩, st⟩ := vx_callSW X hx (hh := hh) (bytes := bytes) (maxL := maxL) (ret := ret) ho hl hstt hini hcode hy hK hg (hsize.trans hml.symm) (argsL := As) (rest := rest) (fun sig h => hn.trans (hlen sig h)) hstack hW (by rw [hb]; exact hdg)
    (fun vm₁ hW₁ => ⟨hf.1, hf.2, hp.2 (T.setVm vm₁) hT hW₁⟩)
  dsimp only [Pt.U, Pt.locs, Pt.cells, Pt.slots] at X' e1 e2 h1 h2 h3 st
  subst h1; subst h2; subst h3
  exact ⟨v, (T.setVm vm₁).calling g' mk As.toArray, t, U', L, hT, X', hL, e1, e2, hq, st⟩
/-- not caught here, past rows that name other classes: it goes on to the caller -/
theorem vx_outP {p : Program} {l : Launch} {e : Env} {R : Room} {s : State} {m : MethodId} {args : Array Value} {below : List Frame} {meth : Method} {c : Code} {H : Heap} {locs : List Loc} {cells slots : Nat} {free : Addr → Prop} {ls : Array Slot} {rest : List Value} {Qc : Array Value → State → Outcome → State → Prop} {XC : String → State → State → Prop}
    {pc : Nat} {own E : String} {ce : Cell} {q : Addr} {mc ms : Nat} (hown : s.vm.findClass own = some m.cls) (hlocks : meth.locks = false)
    (hpass : ∀ z ∈ c.exceptionTable.toList, covers z pc = false ∨ (z.catchType ≠ 0 ∧ ∃ nm : String, (Cond.classLink own z.catchType nm).before args s = true ∧ va_Nc E nm s)) (hcell : H[q]? = some ce) (hv : ce.vm = .none) (hcl : s.vm.findClass E = some ce.cls)
    (hx : ∀ t : State, t.heap = H → s.vm.Alike t.vm → XC E s t) (hf : ∀ z ∈ locs, free z.base) (hc : cells ≤ mc) (hs : slots ≤ ms) :
    vx_W p l e R s m args below meth c H locs cells slots (vx_MQ below Qc XC args s mc ms free) (F0 m pc ls rest) q := by
  intro T hT X
  have hpl : e.platform.magicAccessors = ({} : Platform).magicAccessors := by rw [X.admits.platform]
  obtain ⟨vm', hW', X', st⟩ := X.outThrough hlocks q (g := F0 m pc ls rest) rfl rfl rfl (cell := ce) (by rw [hT]; exact hcell) (by rw [hv]; rfl)
    (by obtain ⟨k9, h9, -⟩ := Vm.findClass_spec hcl; exact ⟨k9, h9⟩) (fun z hz => by
      rcases hpass z hz with h | ⟨hz0, nm, hl1, hn1⟩
      · exact Or.inl h
      · obtain ⟨c6, hc6, hcl6⟩ := Cond.classLink_spec hown hl1 e.platform hpl
        obtain ⟨a8, b8, h1, h2, h3⟩ := hn1
        cases Option.some.inj (h1.symm.trans hcl)
        cases Option.some.inj (h2.symm.trans hc6)
        exact Or.inr ⟨hz0, _, hcl6, h3⟩)
  obtain ⟨g₀, hfr⟩ := X'.frames_eq
  have hcell9 : ((T.setVm vm').setFrames (.throwing q :: below)).heap[q]? = some ce := by
    show T.heap[q]? = some ce
    rw [hT]; exact hcell
  have hend : Ended ((T.setVm vm').setFrames (.throwing q :: below)) below (.threw q) := State.frames_setFrames _ (State.cur_lt_of_frames hfr)
  refine ⟨(T.setVm vm').setFrames (.throwing q :: below), ?_, .threw q, X'.here.running, hend, Or.inr ⟨q, rfl, E, ce, locs, hx _ hT (X'.ends _).1.alike, hcell9, hv, hcl, (X'.ends _).1, (X'.ends _).2.mono hc hs, hf⟩⟩
  rw [X.pushThrowing_eq]
  exact st
/-- a thing of a world lies in the heap -/
theorem vx_lt {D : va_G} {cl : List vw_C} {ws : va_W} {H1 : Heap} (h : va_P D cl ws H1) {k : Nat} {q : Nat × va_E} (hk : ws[k]? = some q) : q.1 < H1.size := (h k q hk).lt
end VXS
/-! ===== END ===== -/
/-! ===== BEGIN methods with a table of their own: called by a name, returning or throwing ===== -/
section VXH
/-! vx_backW, vx_callVX, vx_callSX, vx_callVW, vx_runVW, vx_runVX, vx_runSX, vx_ofWH follow the same proofs as their sisters above (Free/Laws.lean, Shelf42/LK1.lean); vx_outP calls Shelf42/NT130.lean (outThrough). -/
section
variable {l : Launch} {R : Room} {p : Program} {e : Env} {below : List Frame} {s : State} {sargs : Array Value} {y : MethodName} {len W9 : Nat}
theorem vx_backW {ws : List Cond} {rm : Room} {Pc : Array Value → State → Prop} {Qc : Array Value → State → Outcome → State → Prop} {XC : String → State → State → Prop} {mc ms : Nat} {free : Addr → Prop} {bytes : ByteArray} {maxL : Nat} {ret : Option FieldType} {hh : List (Nat × Nat × Nat × Nat)}
    (hM : vx_Met l y ws rm Pc Qc XC mc ms free) (hblind : FrameBlind Pc) (hrc : rm.cells = mc) (hrs : rm.slots = ms)
    (hframes : rm.frames + 1 ≤ R.frames) (hlocals : W9 + (maxL + 11) + rm.locals ≤ R.locals)
    (hws : ∀ w ∈ ws, ∀ a' U, s.WarmedH U.vm → w.before a' U = true) (hcode : Cond.codeWith y bytes maxL ret hh ∈ ws) (hinit : ∀ a' U, s.WarmedH U.vm → (Cond.initialized y.cls).before a' U = true) :
    vx_Back l R p e below s sargs y len W9 (PreOf R mc ms Pc) (PostOf Qc mc ms free) (vx_Post XC mc ms free) := by
  intro m meth c A g ig mk a X hg hsize hdg hW hn hp
  have h1 : (headSpec ws rm).pre.before a A.U = true := atoms_intro fun w hw => hws w hw _ _ X.warmed
  have h2 : (Cond.codeWith y bytes maxL ret hh).before a A.U = true := hws _ hcode _ _ X.warmed
  have h3 : (Cond.initialized y.cls).before a A.U = true := hinit _ _ X.warmed
  have h4 : A.cells + (headSpec ws rm).room.cells ≤ R.cells := by rw [show (headSpec ws rm).room.cells = mc from hrc]; exact hp.1
  have h5 : A.slots + (headSpec ws rm).room.slots ≤ R.slots := by rw [show (headSpec ws rm).room.slots = ms from hrs]; exact hp.2.1
  have hPc : Pc a (A.U.calling g mk a) := hblind _ _ _ _ hp.2.2
  obtain ⟨U, Ls, c0, s0⟩ := A
  dsimp only [Pt.U, Pt.locs, Pt.cells, Pt.slots] at h1 h2 h3 h4 h5 X hn hPc ⊢
  obtain ⟨m9, methY, cY, hn9, hmY, hcY, -, hlY, -⟩ := Cond.codeWith_spec h2
  cases Option.some.inj (hn9.symm.trans hn)
  obtain ⟨kY, hkY, -⟩ := className_of_methodNamed hn
  have hinitY : kY.init = .initialized := Cond.initialized_spec (findClass_of_methodNamed hn) hkY h3
  have h : At U g.method c below := by rw [hg]; exact X.here
  have hlocals9 : W9 + (maxL + 11) + (headSpec ws rm).room.locals ≤ R.locals := hlocals
  have happ : (headSpec ws rm).appliesLoose y e.platform (U.calling g mk a) = true :=
    Spec.appliesLoose_calling (g := g) h hdg hn hkY hinitY
      (X.room_calling (g := g) (R' := (headSpec ws rm).room) hsize hmY hcY hframes (by rw [hlY]; omega) h4 h5) h1
  obtain ⟨mid, hmid⟩ := h.above
  have hfr : (U.setTop g).frames = (.java g :: mid) ++ below := by rw [State.frames_setTop' g h.top, hmid]; rfl
  obtain ⟨o, s₂, hsteps, -, hend, hq⟩ := Steps.callFree hM p X.admits X.cas X.clock (acts := []) hfr happ hPc trivial
  have hq' : vx_Q Qc XC mc ms free a (U.calling g mk a) o s₂ := hq
  rw [State.frames_setTop' g h.top] at hend
  obtain ⟨g₀, hg0⟩ := Option.isSome_iff_exists.mp h.top
  obtain ⟨r, hr⟩ := State.topJava?_eq_some.mp hg0
  have hr' : (({ U with heap := s₂.heap, slotsUsed := s₂.slotsUsed } : State).setVm s₂.vm).frames = .java g₀ :: r := hr
  rcases hq' with ⟨hqc, L, hfe, hL⟩ | ⟨q, rfl, E, ce, L, hx, hce, hcv, hcl, hW₂, hsm, hL⟩
  · obtain ⟨⟨v, rfl⟩, hW₂, e2, q2, q3, q4, q5, q6⟩ := id hfe
    have e3 : s₂ = ({ (U.calling g mk a).setFrames s₂.frames with heap := s₂.heap, slotsUsed := s₂.slotsUsed } : State).setVm s₂.vm := by
      have : s₂ = ({ s₂ with vm := (U.calling g mk a).vm } : State).setVm s₂.vm := rfl
      rw [e2] at this
      exact this
    obtain ⟨c₂, i₂, len₂, hc₂, hd₂, hf₂⟩ := hend
    have hW' : U.WarmedH s₂.vm := hW₂
    have hcc : c₂ = c := by
      have h1 : s₂.code? g.method = U.code? g.method := by
        rw [State.code?_eq, State.code?_eq, hW'.alike.method?]
      exact Option.some.inj (hc₂.symm.trans (h1.trans h.code))
    subst hcc
    have hlen : len₂ = len := by rw [hdg] at hd₂; cases hd₂; rfl
    subst hlen
    have hs₂ : s₂ = (({ U with heap := s₂.heap, slotsUsed := s₂.slotsUsed } : State).setVm s₂.vm).setTop { g with pc := g.pc + len₂, stack := v.toList ++ g.stack } := by
      refine e3.trans ?_
      rw [hf₂, State.calling_eq h.top, State.setFrames_setFrames, State.setTop_of_frames _ hr', hr]
      rfl
    have hsame : U.sameButNew ({ U with heap := s₂.heap, slotsUsed := s₂.slotsUsed } : State) L mc ms := by
      refine ⟨?_, q2, q3, q4, q5, q6⟩
      obtain ⟨t, ht, -⟩ := State.frames_cons hr
      show ({ U with heap := s₂.heap, slotsUsed := s₂.slotsUsed } : State) = { U.setFrames U.frames with heap := s₂.heap, slotsUsed := s₂.slotsUsed }
      rw [State.setFrames_self ht]
    subst hg
    refine Or.inl ⟨v, ⟨(({ U with heap := s₂.heap, slotsUsed := s₂.slotsUsed } : State).setVm s₂.vm), Ls ++ L, c0 + mc, s0 + ms⟩,
      ⟨X.admits, X.cas, X.clock, X.frames, X.room, X.hears, X.method, X.code, (X.here.setHeapUsed s₂.heap s₂.slotsUsed).setVm hW'.alike, X.tail, State.WarmedH.trans X.warmed hW', X.limits, X.bytes, X.same.trans (hsame.setVm s.vm)⟩,
      ⟨g, mk, s₂, L, rfl, rfl, hqc, rfl, hL, rfl, rfl⟩, ?_⟩
    show Steps p.tables e below _ ((({ U with heap := s₂.heap, slotsUsed := s₂.slotsUsed } : State).setVm s₂.vm).setTop { g with pc := g.pc + len₂, stack := v.toList ++ g.stack })
    rw [← hs₂]
    exact hsteps
  · obtain ⟨e2, q2, q3, q4, q5, q6⟩ := id hsm
    have e3 : s₂ = ({ (U.calling g mk a).setFrames s₂.frames with heap := s₂.heap, slotsUsed := s₂.slotsUsed } : State).setVm s₂.vm := by
      have : s₂ = ({ s₂ with vm := (U.calling g mk a).vm } : State).setVm s₂.vm := rfl
      rw [e2] at this
      exact this
    have hf₂ : s₂.frames = .throwing q :: .java g :: U.frames.tail := hend
    have hW' : U.WarmedH s₂.vm := hW₂
    have hs₂ : s₂ = ((({ U with heap := s₂.heap, slotsUsed := s₂.slotsUsed } : State).setVm s₂.vm).setTop g).pushFrame (.throwing q) := by
      refine e3.trans ?_
      rw [hf₂, State.calling_eq h.top, State.setFrames_setFrames, State.pushFrame, State.frames_setTop _ hr', State.setTop_of_frames _ hr', State.setFrames_setFrames, hr]
      rfl
    have hsame : U.sameButNew ({ U with heap := s₂.heap, slotsUsed := s₂.slotsUsed } : State) L mc ms := by
      refine ⟨?_, q2, q3, q4, q5, q6⟩
      obtain ⟨t, ht, -⟩ := State.frames_cons hr
      show ({ U with heap := s₂.heap, slotsUsed := s₂.slotsUsed } : State) = { U.setFrames U.frames with heap := s₂.heap, slotsUsed := s₂.slotsUsed }
      rw [State.setFrames_self ht]
    subst hg
    refine Or.inr ⟨q, ⟨(({ U with heap := s₂.heap, slotsUsed := s₂.slotsUsed } : State).setVm s₂.vm), Ls ++ L, c0 + mc, s0 + ms⟩,
      ⟨X.admits, X.cas, X.clock, X.frames, X.room, X.hears, X.method, X.code, (X.here.setHeapUsed s₂.heap s₂.slotsUsed).setVm hW'.alike, X.tail, State.WarmedH.trans X.warmed hW', X.limits, X.bytes, X.same.trans (hsame.setVm s.vm)⟩,
      ⟨g, mk, s₂, L, E, ce, rfl, rfl, hx, hce, hcv, hcl, rfl, hL, rfl, rfl⟩, ?_⟩
    show Steps p.tables e below _ (((({ U with heap := s₂.heap, slotsUsed := s₂.slotsUsed } : State).setVm s₂.vm).setTop g).pushFrame (.throwing q))
    rw [← hs₂]
    exact hsteps
end
variable {p : Program} {l : Launch} {e : Env} {R : Room} {s : State} {m : MethodId} {args : Array Value} {below : List Frame} {meth : Method} {c : Code} {T : State} {H : Heap} {locs : List Loc} {cells slots : Nat}
theorem vx_callVX (X : Stand p l e R s m args below meth c T locs cells slots) (hexec : p.tables.exec = Jvm.exec) {own C : String} {index : Nat} {y : MethodName} {bytes : ByteArray} {maxL : Nat} {ret : Option FieldType} {hh : List (Nat × Nat × Nat × Nat)}
    (hown : s.vm.findClass own = some m.cls) (hlink : (Cond.methodLink own index y).before args s = true) (hinst : (Cond.instanceMethod y).before args s = true) (hsel : (Cond.selects C y y).before args s = true)
    (hcode : (Cond.codeWith y bytes maxL ret hh).before args s = true) (hy : y.cls ≠ "java/lang/invoke/MethodHandle" ∧ y.cls ≠ "java/lang/invoke/VarHandle")
    {W9 : Nat} {Pre : Pt → Array Value → Prop} {Post : Pt → Array Value → Option Value → Pt → Prop} {PostX : Pt → Array Value → Addr → Pt → Prop} (hK : vx_Back l R p e below s args y 3 W9 Pre Post PostX)
    {b : Addr} {cellB : Cell} (hcell : T.heap[b]? = some cellB) (hobj : cellB.vm.isStatics = false) (hcls : s.vm.findClass C = some cellB.cls)
    {g : JFrame} (hg : g.method = m) (hsize : g.locals.size = c.maxLocals) {argsL rest : List Value} (hlen : ∀ sig, parseMethodDescriptor y.desc = some sig → argsL.length = sig.parameters.length)
    (hstack : g.stack = argsL.reverse ++ .ref b :: rest) (hW : 2 * g.monitorRoom + (rest.map fun v => v.category).sum ≤ W9) (hdg : decode c.code g.pc = .ok (.invokevirtual index, 3))
    (hpre : ∀ vm₁, s.WarmedH vm₁ → Pre ⟨T.setVm vm₁, locs, cells, slots⟩ (Value.ref b :: argsL).toArray) :
    (∃ (v : Option Value) (vm₁ : Vm) (B : Pt), s.WarmedH vm₁ ∧ Stand p l e R s m args below meth c B.U B.locs B.cells B.slots ∧ Post ⟨T.setVm vm₁, locs, cells, slots⟩ (Value.ref b :: argsL).toArray v B ∧
      ∀ target, Steps p.tables e below (B.U.setTop { g with pc := g.pc + 3, stack := v.toList ++ rest }) target → Steps p.tables e below (T.setTop g) target) ∨
    (∃ (q : Addr) (vm₁ : Vm) (B : Pt), s.WarmedH vm₁ ∧ Stand p l e R s m args below meth c B.U B.locs B.cells B.slots ∧ PostX ⟨T.setVm vm₁, locs, cells, slots⟩ (Value.ref b :: argsL).toArray q B ∧
      Steps p.tables e below (T.setTop g) ((B.U.setTop { g with stack := rest }).pushFrame (.throwing q))) := by
  obtain ⟨mk, methM, hnamed, hmethM, hstM, habM⟩ := Cond.instanceMethod_spec hinst
  obtain ⟨m8, methM', cM, hn8, hmethM', -, -, -, -, -, -, hsigM⟩ := Cond.codeWith_spec hcode
  cases Option.some.inj (hn8.symm.trans hnamed)
  cases hmethM.symm.trans hmethM'
  obtain ⟨c2, r2, m2, q1, q2, q3, q4, kP, hkP, hkPi⟩ := Cond.selects_spec hsel
  cases hcls.symm.trans q1
  cases (State.methodFound?_of_named hnamed hy).symm.trans q2
  cases hnamed.symm.trans q3
  have hselP : selectMethod e.platform s.vm cellB.cls mk = .method mk := by rw [Launch.admits_selectMethod X.admits]; exact q4
  obtain ⟨vm₁, X₁, hstep₁⟩ := X.invokevirtual hexec hown hlink hnamed hmethM hstM hkP hkPi hy (a := b) (cell := cellB) hcell
    (fun z h => by rw [h] at hobj; cases hobj) hselP hmethM habM hkP hkPi (g := g) hg (argsL := argsL) (rest := rest) (hlen _ hsigM) hstack hdg
  rcases hK m meth c ⟨T.setVm vm₁, locs, cells, slots⟩ { g with stack := rest } (.invokevirtual index) mk (Value.ref b :: argsL).toArray X₁ hg hsize hdg hW (X₁.named hnamed) (hpre vm₁ X₁.warmed) with ⟨v, B, X', hpost, hsteps⟩ | ⟨q, B, X', hpost, hsteps⟩
  · exact Or.inl ⟨v, vm₁, B, X₁.warmed, X', hpost, fun target h => hstep₁ _ fun acts => by rw [doInvoke_state]; exact hsteps.trans h⟩
  · exact Or.inr ⟨q, vm₁, B, X₁.warmed, X', hpost, hstep₁ _ fun acts => by rw [doInvoke_state]; exact hsteps⟩
theorem vx_callSX (X : Stand p l e R s m args below meth c T locs cells slots) (hexec : p.tables.exec = Jvm.exec) {own : String} {index : Nat} {y : MethodName} {bytes : ByteArray} {maxL : Nat} {ret : Option FieldType} {hh : List (Nat × Nat × Nat × Nat)}
    (hown : s.vm.findClass own = some m.cls) (hlink : (Cond.methodLink own index y).before args s = true) (hstat : (Cond.static y).before args s = true) (hinit : (Cond.initialized y.cls).before args s = true)
    (hcode : (Cond.codeWith y bytes maxL ret hh).before args s = true) (hy : y.cls ≠ "java/lang/invoke/MethodHandle" ∧ y.cls ≠ "java/lang/invoke/VarHandle")
    {W9 : Nat} {Pre : Pt → Array Value → Prop} {Post : Pt → Array Value → Option Value → Pt → Prop} {PostX : Pt → Array Value → Addr → Pt → Prop} (hK : vx_Back l R p e below s args y 3 W9 Pre Post PostX)
    {g : JFrame} (hg : g.method = m) (hsize : g.locals.size = c.maxLocals) {argsL rest : List Value} (hlen : ∀ sig, parseMethodDescriptor y.desc = some sig → argsL.length = sig.parameters.length)
    (hstack : g.stack = argsL.reverse ++ rest) (hW : 2 * g.monitorRoom + (rest.map fun v => v.category).sum ≤ W9) (hdg : decode c.code g.pc = .ok (.invokestatic index, 3))
    (hpre : ∀ vm₁, s.WarmedH vm₁ → Pre ⟨T.setVm vm₁, locs, cells, slots⟩ argsL.toArray) :
    (∃ (v : Option Value) (vm₁ : Vm) (B : Pt), s.WarmedH vm₁ ∧ Stand p l e R s m args below meth c B.U B.locs B.cells B.slots ∧ Post ⟨T.setVm vm₁, locs, cells, slots⟩ argsL.toArray v B ∧
      ∀ target, Steps p.tables e below (B.U.setTop { g with pc := g.pc + 3, stack := v.toList ++ rest }) target → Steps p.tables e below (T.setTop g) target) ∨
    (∃ (q : Addr) (vm₁ : Vm) (B : Pt), s.WarmedH vm₁ ∧ Stand p l e R s m args below meth c B.U B.locs B.cells B.slots ∧ PostX ⟨T.setVm vm₁, locs, cells, slots⟩ argsL.toArray q B ∧
      Steps p.tables e below (T.setTop g) ((B.U.setTop { g with stack := rest }).pushFrame (.throwing q))) := by
  obtain ⟨mk, methM, cM, hnamed, hmethM, -, -, -, -, -, -, hsigM⟩ := Cond.codeWith_spec hcode
  have hstatic : methM.isStatic = true := Cond.static_spec hnamed hmethM hstat
  obtain ⟨kP, hkP, -⟩ := className_of_methodNamed hnamed
  have hinitP : kP.init = .initialized := Cond.initialized_spec (findClass_of_methodNamed hnamed) hkP hinit
  obtain ⟨vm₁, X₁, hstep₁⟩ := X.invokestatic hexec hown hlink hnamed hmethM hstatic hkP hinitP hy (g := g) hg (argsL := argsL) (rest := rest) (hlen _ hsigM) hstack hdg
  rcases hK m meth c ⟨T.setVm vm₁, locs, cells, slots⟩ { g with stack := rest } (.invokestatic index) mk argsL.toArray X₁ hg hsize hdg hW (X₁.named hnamed) (hpre vm₁ X₁.warmed) with ⟨v, B, X', hpost, hsteps⟩ | ⟨q, B, X', hpost, hsteps⟩
  · exact Or.inl ⟨v, vm₁, B, X₁.warmed, X', hpost, fun target h => hstep₁ _ fun acts => by rw [doInvoke_state]; exact hsteps.trans h⟩
  · exact Or.inr ⟨q, vm₁, B, X₁.warmed, X', hpost, hstep₁ _ fun acts => by rw [doInvoke_state]; exact hsteps⟩
theorem vx_callVW (X : Stand p l e R s m args below meth c T locs cells slots) (hexec : p.tables.exec = Jvm.exec) {own C : String} {index : Nat} {y : MethodName} {bytes : ByteArray} {maxL : Nat} {ret : Option FieldType} {hh : List (Nat × Nat × Nat × Nat)}
    (hown : s.vm.findClass own = some m.cls) (hlink : (Cond.methodLink own index y).before args s = true) (hinst : (Cond.instanceMethod y).before args s = true) (hsel : (Cond.selects C y y).before args s = true)
    (hcode : (Cond.codeWith y bytes maxL ret hh).before args s = true) (hy : y.cls ≠ "java/lang/invoke/MethodHandle" ∧ y.cls ≠ "java/lang/invoke/VarHandle")
    {W9 : Nat} {Pre : Pt → Array Value → Prop} {Post : Pt → Array Value → Option Value → Pt → Prop} (hK : Back l R p e below s args y 3 W9 Pre Post)
    {b : Addr} {cellB : Cell} (hcell : T.heap[b]? = some cellB) (hobj : cellB.vm.isStatics = false) (hcls : s.vm.findClass C = some cellB.cls)
    {g : JFrame} (hg : g.method = m) (hsize : g.locals.size = c.maxLocals) {argsL rest : List Value} (hlen : ∀ sig, parseMethodDescriptor y.desc = some sig → argsL.length = sig.parameters.length)
    (hstack : g.stack = argsL.reverse ++ .ref b :: rest) (hW : 2 * g.monitorRoom + (rest.map fun v => v.category).sum ≤ W9) (hdg : decode c.code g.pc = .ok (.invokevirtual index, 3))
    (hpre : ∀ vm₁, s.WarmedH vm₁ → Pre ⟨T.setVm vm₁, locs, cells, slots⟩ (Value.ref b :: argsL).toArray) :
    ∃ (v : Option Value) (vm₁ : Vm) (B : Pt), s.WarmedH vm₁ ∧ Stand p l e R s m args below meth c B.U B.locs B.cells B.slots ∧ Post ⟨T.setVm vm₁, locs, cells, slots⟩ (Value.ref b :: argsL).toArray v B ∧
      ∀ target, Steps p.tables e below (B.U.setTop { g with pc := g.pc + 3, stack := v.toList ++ rest }) target → Steps p.tables e below (T.setTop g) target := by
  obtain ⟨mk, methM, hnamed, hmethM, hstM, habM⟩ := Cond.instanceMethod_spec hinst
  obtain ⟨m8, methM', cM, hn8, hmethM', -, -, -, -, -, -, hsigM⟩ := Cond.codeWith_spec hcode
  cases Option.some.inj (hn8.symm.trans hnamed)
  cases hmethM.symm.trans hmethM'
  obtain ⟨c2, r2, m2, q1, q2, q3, q4, kP, hkP, hkPi⟩ := Cond.selects_spec hsel
  cases hcls.symm.trans q1
  cases (State.methodFound?_of_named hnamed hy).symm.trans q2
  cases hnamed.symm.trans q3
  have hselP : selectMethod e.platform s.vm cellB.cls mk = .method mk := by rw [Launch.admits_selectMethod X.admits]; exact q4
  obtain ⟨vm₁, X₁, hstep₁⟩ := X.invokevirtual hexec hown hlink hnamed hmethM hstM hkP hkPi hy (a := b) (cell := cellB) hcell
    (fun z h => by rw [h] at hobj; cases hobj) hselP hmethM habM hkP hkPi (g := g) hg (argsL := argsL) (rest := rest) (hlen _ hsigM) hstack hdg
  obtain ⟨v, B, X', hpost, hsteps⟩ := hK m meth c ⟨T.setVm vm₁, locs, cells, slots⟩ { g with stack := rest } (.invokevirtual index) mk (Value.ref b :: argsL).toArray X₁ hg hsize hdg hW (X₁.named hnamed) (hpre vm₁ X₁.warmed)
  exact ⟨v, vm₁, B, X₁.warmed, X', hpost, fun target h => hstep₁ _ fun acts => by rw [doInvoke_state]; exact hsteps.trans h⟩
abbrev vx_CVW (R : Room) (s : State) (args : Array Value) (own C : String) (index : Nat) (y : MethodName) (bytes : ByteArray) (maxL : Nat) (ret : Option FieldType) (hh : List (Nat × Nat × Nat × Nat)) (ws : List Cond) (rm : Room) (mc ms n : Nat) : Prop :=
  (rm.cells = mc ∧ rm.slots = ms ∧ rm.frames + 1 ≤ R.frames ∧ 8 + (maxL + 11) + rm.locals ≤ R.locals ∧ (∀ w ∈ ws, ∀ (a' : Array Value) (U : State), s.WarmedH U.vm → w.before a' U = true) ∧ Cond.codeWith y bytes maxL ret hh ∈ ws) ∧
  (Cond.codeWith y bytes maxL ret hh).before args s = true ∧ (Cond.initialized y.cls).before args s = true ∧ (y.cls ≠ "java/lang/invoke/MethodHandle" ∧ y.cls ≠ "java/lang/invoke/VarHandle") ∧
  (∀ sig, parseMethodDescriptor y.desc = some sig → n = sig.parameters.length) ∧ (Cond.methodLink own index y).before args s = true ∧ (Cond.instanceMethod y).before args s = true ∧ (Cond.selects C y y).before args s = true
theorem vx_cwVW {own C : String} {index maxL mc ms : Nat} {y : MethodName} {bytes : ByteArray} {ret : Option FieldType} {hh : List (Nat × Nat × Nat × Nat)} {Ts ws ws' : List Cond} {rm : Room} (n : Nat) (ht : ∀ w ∈ Ts, w.before args s = true) (hT : GoodIn Ts (wsV own index C y ws)) (hw : ws = Cond.codeWith y bytes maxL ret hh :: ws') (hrc : rm.cells = mc) (hrs : rm.slots = ms)
    (hd : y.cls = C ∧ y.cls ≠ "java/lang/invoke/MethodHandle" ∧ y.cls ≠ "java/lang/invoke/VarHandle" ∧ (parseMethodDescriptor y.desc).map (fun d => d.parameters.length) = some n) (hR : rm.frames + 1 ≤ R.frames ∧ 8 + (maxL + 11) + rm.locals ≤ R.locals) :
    vx_CVW R s args own C index y bytes maxL ret hh ws rm mc ms n := by
  obtain ⟨hC, hd⟩ := hd
  subst hC
  have ok : ∀ w ∈ wsV own index y.cls y ws, w.before args s = true := fun w h => ht w (hT w h).1
  have hG : GoodIn Ts ws := fun w h => hT w (by unfold wsV; exact List.mem_append_right _ h)
  have hc : Cond.codeWith y bytes maxL ret hh ∈ ws := by rw [hw]; exact List.mem_cons_self
  refine ⟨⟨hrc, hrs, hR.1, hR.2, pay_in ht hG, hc⟩, ht _ (hG _ hc).1, ok _ (by simp [wsV]), ⟨hd.1, hd.2.1⟩, fun sig h => ?_, ok _ (by simp [wsV]), ok _ (by simp [wsV]), ok _ (by simp [wsV])⟩
  have h2 := hd.2.2
  rw [h] at h2
  exact (Option.some.inj h2).symm
theorem vx_runVW {y : MethodName} {bytes cc : ByteArray} {maxL nL mc ms n index : Nat} {ret : Option FieldType} {hh : List (Nat × Nat × Nat × Nat)} {ws : List Cond} {rm : Room} {Pc : Array Value → State → Prop} {Qc : Array Value → State → Outcome → State → Prop} {free : Addr → Prop} {Ts : List Cond} {own C : String} {b : Addr} {As rest : List Value} {g : JFrame}
    (S : CallFix p m c cc nL s args Ts own) (hM : Met l y ws rm Pc Qc mc ms free) (cw : vx_CVW R s args own C index y bytes maxL ret hh ws rm mc ms n) (hp : PreV s H C b Pc As)
    (hg : g.method = m) (hn : As.length = n) (hsize : g.locals.size = nL) (hstack : g.stack = As.reverse ++ .ref b :: rest) (hW : 2 * g.monitorRoom + (rest.map fun v => v.category).sum ≤ 8) (hdg : decode cc g.pc = .ok (.invokevirtual index, 3)) (hf : cells + mc ≤ R.cells ∧ slots + ms ≤ R.slots) :
    va_Run p l e R s m args below meth c H locs cells slots mc ms g rest (Qc (Value.ref b :: As).toArray) free := by
  obtain ⟨⟨hrc, hrs, hfr, hlo, hws, hcw⟩, hcode, hini, hy, hlen, hl, hin, hse⟩ := cw
  have hK : Back l R p e below s args y 3 8 (PreOf R mc ms Pc) (PostOf Qc mc ms free) := va_backW (hh := hh) (bytes := bytes) (maxL := maxL) (ret := ret) hM hp.1 hrc hrs hfr hlo hws hcw (fun a' U hW => word_at hW (Or.inl (by first | rfl | simp [Cond.onTables, Cond.keeps, Cond.steady])) hini)
  obtain ⟨hx, hb, hml, ho, -⟩ := S
  obtain ⟨-, ⟨cellB, hcB, hoB, hclB⟩, hPc⟩ := hp
  intro T hT X
  obtain ⟨v, vm₁, ⟨U', l2, c2, s2⟩, hW₁, X', ⟨g', mk, t, L, e1, e2, hq, h1, hL, h2, h3⟩, st⟩ := vx_callVW X hx (C := C) (hh := hh) (bytes := bytes) (maxL := maxL) (ret := ret) ho hl hin hse hcode hy hK (by rw [hT]; exact hcB) hoB hclB hg (hsize.trans hml.symm) (argsL := As) (rest := rest) (fun sig h => hn.trans (hlen sig h)) hstack hW (by rw [hb]; exact hdg)
    (fun vm₁ hW₁ => ⟨hf.1, hf.2, hPc (T.setVm vm₁) hT hW₁⟩)
  dsimp only [Pt.U, Pt.locs, Pt.cells, Pt.slots] at X' e1 e2 h1 h2 h3 st
  subst h1; subst h2; subst h3
  exact ⟨v, (T.setVm vm₁).calling g' mk (Value.ref b :: As).toArray, t, U', L, hT, X', hL, e1, e2, hq, st⟩
section
variable {y : MethodName} {bytes cc : ByteArray} {maxL nL mc ms n index : Nat} {ret : Option FieldType} {ws : List Cond} {rm : Room} {Pc : Array Value → State → Prop} {Qc : Array Value → State → Outcome → State → Prop} {XC : String → State → State → Prop} {free : Addr → Prop} {Ts : List Cond} {own C : String} {b : Addr} {As rest : List Value} {g : JFrame}
theorem vx_runVX {hh : List (Nat × Nat × Nat × Nat)} (S : CallFix p m c cc nL s args Ts own) (hM : vx_Met l y ws rm Pc Qc XC mc ms free) (cw : vx_CVW R s args own C index y bytes maxL ret hh ws rm mc ms n) (hp : PreV s H C b Pc As)
    (hg : g.method = m) (hn : As.length = n) (hsize : g.locals.size = nL) (hstack : g.stack = As.reverse ++ .ref b :: rest) (hW : 2 * g.monitorRoom + (rest.map fun v => v.category).sum ≤ 8) (hdg : decode cc g.pc = .ok (.invokevirtual index, 3)) (hf : cells + mc ≤ R.cells ∧ slots + ms ≤ R.slots) :
    vx_Run p l e R s m args below meth c H locs cells slots mc ms g rest (Qc (Value.ref b :: As).toArray) XC free := by
  obtain ⟨⟨hrc, hrs, hfr, hlo, hws, hcw⟩, hcode, hini, hy, hlen, hl, hin, hse⟩ := cw
  have hK : vx_Back l R p e below s args y 3 8 (PreOf R mc ms Pc) (PostOf Qc mc ms free) (vx_Post XC mc ms free) := vx_backW (hh := hh) (bytes := bytes) (maxL := maxL) (ret := ret) hM hp.1 hrc hrs hfr hlo hws hcw (fun a' U hW => word_at hW (Or.inl (by first | rfl | simp [Cond.onTables, Cond.keeps, Cond.steady])) hini)
  obtain ⟨hx, hb, hml, ho, -⟩ := S
  obtain ⟨-, ⟨cellB, hcB, hoB, hclB⟩, hPc⟩ := hp
  intro T hT X
  rcases vx_callVX X hx (C := C) (hh := hh) (bytes := bytes) (maxL := maxL) (ret := ret) ho hl hin hse hcode hy hK (by rw [hT]; exact hcB) hoB hclB hg (hsize.trans hml.symm) (argsL := As) (rest := rest) (fun sig h => hn.trans (hlen sig h)) hstack hW (by rw [hb]; exact hdg)
    (fun vm₁ hW₁ => ⟨hf.1, hf.2, hPc (T.setVm vm₁) hT hW₁⟩) with ⟨v, vm₁, ⟨U', l2, c2, s2⟩, hW₁, X', ⟨g', mk, t, L, e1, e2, hq, h1, hL, h2, h3⟩, st⟩ | ⟨q, vm₁, ⟨U', l2, c2, s2⟩, hW₁, X', ⟨g', mk, t, L, E, ce, e1, e2, hq, hce, hcv, hcl, h1, hL, h2, h3⟩, st⟩
  · dsimp only [Pt.U, Pt.locs, Pt.cells, Pt.slots] at X' e1 e2 h1 h2 h3 st
    subst h1; subst h2; subst h3
    exact Or.inl ⟨v, (T.setVm vm₁).calling g' mk (Value.ref b :: As).toArray, t, U', L, hT, X', hL, e1, e2, hq, st⟩
  · dsimp only [Pt.U, Pt.locs, Pt.cells, Pt.slots] at X' e1 e2 h1 h2 h3 st hcl
    subst h1; subst h2; subst h3
    exact Or.inr ⟨q, (T.setVm vm₁).calling g' mk (Value.ref b :: As).toArray, t, U', L, E, ce, hT, X', hL, e1, e2, hq, hce, hcv, vx_cls hW₁ hcl, st⟩
theorem vx_runSX {hh : List (Nat × Nat × Nat × Nat)} (S : CallFix p m c cc nL s args Ts own) (hM : vx_Met l y ws rm Pc Qc XC mc ms free) (cw : vx_CSW R s args own index y bytes maxL ret hh ws rm mc ms n) (hp : PreS s H Pc As)
    (hg : g.method = m) (hn : As.length = n) (hsize : g.locals.size = nL) (hstack : g.stack = As.reverse ++ rest) (hW : 2 * g.monitorRoom + (rest.map fun v => v.category).sum ≤ 8) (hdg : decode cc g.pc = .ok (.invokestatic index, 3)) (hf : cells + mc ≤ R.cells ∧ slots + ms ≤ R.slots) :
    vx_Run p l e R s m args below meth c H locs cells slots mc ms g rest (Qc As.toArray) XC free := by
  obtain ⟨⟨hrc, hrs, hfr, hlo, hws, hcw⟩, hcode, hini, hy, hlen, hl, hstt⟩ := cw
  have hK : vx_Back l R p e below s args y 3 8 (PreOf R mc ms Pc) (PostOf Qc mc ms free) (vx_Post XC mc ms free) := vx_backW (hh := hh) (bytes := bytes) (maxL := maxL) (ret := ret) hM hp.1 hrc hrs hfr hlo hws hcw (fun a' U hW => word_at hW (Or.inl (by first | rfl | simp [Cond.onTables, Cond.keeps, Cond.steady])) hini)
  obtain ⟨hx, hb, hml, ho, -⟩ := S
  intro T hT X
  rcases vx_callSX X hx (hh := hh) (bytes := bytes) (maxL := maxL) (ret := ret) ho hl hstt hini hcode hy hK hg (hsize.trans hml.symm) (argsL := As) (rest := rest) (fun sig h => hn.trans (hlen sig h)) hstack hW (by rw [hb]; exact hdg)
    (fun vm₁ hW₁ => ⟨hf.1, hf.2, hp.2 (T.setVm vm₁) hT hW₁⟩) with ⟨v, vm₁, ⟨U', l2, c2, s2⟩, hW₁, X', ⟨g', mk, t, L, e1, e2, hq, h1, hL, h2, h3⟩, st⟩ | ⟨q, vm₁, ⟨U', l2, c2, s2⟩, hW₁, X', ⟨g', mk, t, L, E, ce, e1, e2, hq, hce, hcv, hcl, h1, hL, h2, h3⟩, st⟩
  · dsimp only [Pt.U, Pt.locs, Pt.cells, Pt.slots] at X' e1 e2 h1 h2 h3 st
    subst h1; subst h2; subst h3
    exact Or.inl ⟨v, (T.setVm vm₁).calling g' mk As.toArray, t, U', L, hT, X', hL, e1, e2, hq, st⟩
  · dsimp only [Pt.U, Pt.locs, Pt.cells, Pt.slots] at X' e1 e2 h1 h2 h3 st hcl
    subst h1; subst h2; subst h3
    exact Or.inr ⟨q, (T.setVm vm₁).calling g' mk As.toArray, t, U', L, E, ce, hT, X', hL, e1, e2, hq, hce, hcv, vx_cls hW₁ hcl, st⟩
end
end VXH
theorem vx_ofWH {l : Launch} {y : MethodName} {ws ws' : List Cond} {rm : Room} {Pc : Array Value → State → Prop} {Qc : Array Value → State → Outcome → State → Prop} {XC : String → State → State → Prop} {mc ms : Nat} {free : Addr → Prop} {cc : ByteArray} {maxL : Nat} {ret : Option FieldType} {hh : List (Nat × Nat × Nat × Nat)}
    (hy : plainName y.cls = true) (hw : ws = Cond.codeWith y cc maxL ret hh :: ws')
    (body : ∀ p e s m args below meth c s₁, BodyLoose p l y (headSpec ws rm) cc maxL ret e s m args below meth c s₁ → c.maxLocals = maxL → Pc args s →
      W p l e (headSpec ws rm).room s m args below meth c s.heap [] 0 0 (vx_MQ below Qc XC args s mc ms free) (entryFrame m args maxL)) : vx_Met l y ws rm Pc Qc XC mc ms free := by
  refine MetFree.of_bodyS (code := cc) (maxLocals := maxL) (ret := ret) hy ?_ ?_
  · intro args s m h hn
    obtain ⟨m9, meth, c, hn9, h1, h2, h3, h4, -, h5, h6, -⟩ := Cond.codeWith_spec (atoms_spec (ws := ws) h _ (by rw [hw]; exact List.mem_cons_self))
    cases hn.symm.trans hn9
    exact ⟨meth, c, h1, h2, h3, h4, h5, h6⟩
  · intro p e s m args below meth c s₁ B hml hP _
    have hh0 : s₁.heap = s.heap := by rw [B.state]; rfl
    obtain ⟨t, a1, o, b1, b2, b3⟩ := body p e s m args below meth c s₁ B hml hP s₁ hh0 (Stand.of_body B)
    exact ⟨t, o, a1, b1, b2, b3⟩
/-! ===== END ===== -/
end
section
/-! ===== BEGIN printed: names, fields, word lists, decode rows ===== -/
def RX0 : String := "BoxofficeRow$ExchangeChain"
def TX0 : u_T := fun k => match k with
  | 0 => ("BoxofficeRow$ExchangeChain", "hall", "LBoxofficeRow$Hall;", true)
  | 1 => ("BoxofficeRow$ExchangeChain", "book", "LBoxofficeRow$TicketBook;", true)
  | 2 => ("BoxofficeRow$ExchangeChain", "stepsFrom", "[I", true)
  | 3 => ("BoxofficeRow$ExchangeChain", "members", "[I", true)
  | 4 => ("BoxofficeRow$ExchangeChain", "length", "I", false)
  | _ => ("BoxofficeRow$ExchangeChain", "seats", "I", false)
def tyX0 : Nat → FieldType := fun k => match k with
  | 0 => .object "BoxofficeRow$Hall"
  | 1 => .object "BoxofficeRow$TicketBook"
  | 2 => .array .int
  | 3 => .array .int
  | 4 => .int
  | _ => .int
abbrev wsX00 : List Cond := u_ws RX0 TX0 6
theorem nmX0 : ∀ a, a < 6 → ∀ b, b < 6 → a ≠ b → (TX0 a).2.1 ≠ (TX0 b).2.1 := by decide +kernel
theorem tyX0_ok : ∀ k, k < 6 → parseFieldDescriptor (TX0 k).2.2.1 = some (tyX0 k) := by decide +kernel
abbrev cX0_init : ByteArray := prog_2_method_1_code
def yX0_init : MethodName := ⟨RX0, "<init>", "(LBoxofficeRow$Hall;LBoxofficeRow$TicketBook;)V"⟩
abbrev cX0_find : ByteArray := prog_2_method_2_code
def yX0_find : MethodName := ⟨RX0, "find", "(I)Z"⟩
abbrev cX0_stepsOf : ByteArray := prog_2_method_3_code
def yX0_stepsOf : MethodName := ⟨RX0, "stepsOf", "(I)I"⟩
abbrev cX0_markEnds : ByteArray := prog_2_method_4_code
def yX0_markEnds : MethodName := ⟨RX0, "markEnds", "(I)V"⟩
abbrev cX0_shortenSteps : ByteArray := prog_2_method_5_code
def yX0_shortenSteps : MethodName := ⟨RX0, "shortenSteps", "()V"⟩
abbrev cX0_takesPart : ByteArray := prog_2_method_6_code
def yX0_takesPart : MethodName := ⟨RX0, "takesPart", "(I)Z"⟩
abbrev cX0_collect : ByteArray := prog_2_method_7_code
def yX0_collect : MethodName := ⟨RX0, "collect", "(II)V"⟩
abbrev cX0_lowestIn : ByteArray := prog_2_method_8_code
def yX0_lowestIn : MethodName := ⟨RX0, "lowestIn", "(II)I"⟩
abbrev cX0_carryOut : ByteArray := prog_2_method_9_code
def yX0_carryOut : MethodName := ⟨RX0, "carryOut", "()I"⟩
abbrev cX0_move : ByteArray := prog_2_method_10_code
def yX0_move : MethodName := ⟨RX0, "move", "(III)V"⟩
def RX1 : String := "BoxofficeRow$GroupSplit"
def TX1 : u_T := fun k => match k with
  | 0 => ("BoxofficeRow$GroupSplit", "hall", "LBoxofficeRow$Hall;", true)
  | 1 => ("BoxofficeRow$GroupSplit", "longest", "[I", true)
  | 2 => ("BoxofficeRow$GroupSplit", "blockFirsts", "[[I", true)
  | 3 => ("BoxofficeRow$GroupSplit", "blockValues", "[[I", true)
  | 4 => ("BoxofficeRow$GroupSplit", "fewestRows", "[[I", true)
  | 5 => ("BoxofficeRow$GroupSplit", "greatestValues", "[[I", true)
  | 6 => ("BoxofficeRow$GroupSplit", "taken", "[I", true)
  | _ => ("BoxofficeRow$GroupSplit", "used", "I", false)
def tyX1 : Nat → FieldType := fun k => match k with
  | 0 => .object "BoxofficeRow$Hall"
  | 1 => .array .int
  | 2 => .array (.array .int)
  | 3 => .array (.array .int)
  | 4 => .array (.array .int)
  | 5 => .array (.array .int)
  | 6 => .array .int
  | _ => .int
abbrev wsX10 : List Cond := u_ws RX1 TX1 8
theorem nmX1 : ∀ a, a < 8 → ∀ b, b < 8 → a ≠ b → (TX1 a).2.1 ≠ (TX1 b).2.1 := by decide +kernel
theorem tyX1_ok : ∀ k, k < 8 → parseFieldDescriptor (TX1 k).2.2.1 = some (tyX1 k) := by decide +kernel
abbrev cX1_init : ByteArray := prog_3_method_1_code
def yX1_init : MethodName := ⟨RX1, "<init>", "(LBoxofficeRow$Hall;)V"⟩
abbrev cX1_rowsUsed : ByteArray := prog_3_method_2_code
def yX1_rowsUsed : MethodName := ⟨RX1, "rowsUsed", "()I"⟩
abbrev cX1_seatsFrom : ByteArray := prog_3_method_3_code
def yX1_seatsFrom : MethodName := ⟨RX1, "seatsFrom", "(I)I"⟩
abbrev cX1_firstIn : ByteArray := prog_3_method_4_code
def yX1_firstIn : MethodName := ⟨RX1, "firstIn", "(I)I"⟩
abbrev cX1_find : ByteArray := prog_3_method_5_code
def yX1_find : MethodName := ⟨RX1, "find", "(I)Z"⟩
abbrev cX1_startBehindLastRow : ByteArray := prog_3_method_6_code
def yX1_startBehindLastRow : MethodName := ⟨RX1, "startBehindLastRow", "(I)V"⟩
abbrev cX1_readBlocks : ByteArray := prog_3_method_7_code
def yX1_readBlocks : MethodName := ⟨RX1, "readBlocks", "(I)V"⟩
abbrev cX1_decide : ByteArray := prog_3_method_8_code
def yX1_decide : MethodName := ⟨RX1, "decide", "(II)V"⟩
abbrev cX1_takeFromRows : ByteArray := prog_3_method_9_code
def yX1_takeFromRows : MethodName := ⟨RX1, "takeFromRows", "(I)V"⟩
abbrev cX1_mostSeats : ByteArray := prog_3_method_10_code
def yX1_mostSeats : MethodName := ⟨RX1, "mostSeats", "(II)I"⟩
abbrev cX1_keepsBest : ByteArray := prog_3_method_11_code
def yX1_keepsBest : MethodName := ⟨RX1, "keepsBest", "(III)Z"⟩
def RX2 : String := "BoxofficeRow$Hall"
def TX2 : u_T := fun k => match k with
  | 0 => ("BoxofficeRow$Hall", "seatCounts", "[I", true)
  | 1 => ("BoxofficeRow$Hall", "scores", "[I", true)
  | 2 => ("BoxofficeRow$Hall", "prices", "[I", true)
  | 3 => ("BoxofficeRow$Hall", "owners", "[[I", true)
  | _ => ("BoxofficeRow$Hall", "added", "I", false)
def tyX2 : Nat → FieldType := fun k => match k with
  | 0 => .array .int
  | 1 => .array .int
  | 2 => .array .int
  | 3 => .array (.array .int)
  | _ => .int
abbrev wsX20 : List Cond := u_ws RX2 TX2 5
theorem nmX2 : ∀ a, a < 5 → ∀ b, b < 5 → a ≠ b → (TX2 a).2.1 ≠ (TX2 b).2.1 := by decide +kernel
theorem tyX2_ok : ∀ k, k < 5 → parseFieldDescriptor (TX2 k).2.2.1 = some (tyX2 k) := by decide +kernel
abbrev cX2_init : ByteArray := prog_4_method_1_code
def yX2_init : MethodName := ⟨RX2, "<init>", "()V"⟩
abbrev cX2_rowCount : ByteArray := prog_4_method_2_code
def yX2_rowCount : MethodName := ⟨RX2, "rowCount", "()I"⟩
abbrev cX2_hasRow : ByteArray := prog_4_method_3_code
def yX2_hasRow : MethodName := ⟨RX2, "hasRow", "(I)Z"⟩
abbrev cX2_seatsIn : ByteArray := prog_4_method_4_code
def yX2_seatsIn : MethodName := ⟨RX2, "seatsIn", "(I)I"⟩
abbrev cX2_hasSeat : ByteArray := prog_4_method_5_code
def yX2_hasSeat : MethodName := ⟨RX2, "hasSeat", "(II)Z"⟩
abbrev cX2_append : ByteArray := prog_4_method_6_code
def yX2_append : MethodName := ⟨RX2, "append", "(III)I"⟩
abbrev cX2_ownerOf : ByteArray := prog_4_method_7_code
def yX2_ownerOf : MethodName := ⟨RX2, "ownerOf", "(II)I"⟩
abbrev cX2_isFree : ByteArray := prog_4_method_8_code
def yX2_isFree : MethodName := ⟨RX2, "isFree", "(II)Z"⟩
abbrev cX2_seatValue : ByteArray := prog_4_method_9_code
def yX2_seatValue : MethodName := ⟨RX2, "seatValue", "(II)I"⟩
abbrev cX2_countFree : ByteArray := prog_4_method_10_code
def yX2_countFree : MethodName := ⟨RX2, "countFree", "(I)I"⟩
abbrev cX2_countOrphans : ByteArray := prog_4_method_11_code
def yX2_countOrphans : MethodName := ⟨RX2, "countOrphans", "()I"⟩
abbrev cX2_longestFree : ByteArray := prog_4_method_12_code
def yX2_longestFree : MethodName := ⟨RX2, "longestFree", "()I"⟩
abbrev cX2_longestFreeIn : ByteArray := prog_4_method_13_code
def yX2_longestFreeIn : MethodName := ⟨RX2, "longestFreeIn", "(I)I"⟩
abbrev cX2_isPossible : ByteArray := prog_4_method_14_code
def yX2_isPossible : MethodName := ⟨RX2, "isPossible", "(III)Z"⟩
abbrev cX2_blockValue : ByteArray := prog_4_method_15_code
def yX2_blockValue : MethodName := ⟨RX2, "blockValue", "(III)I"⟩
abbrev cX2_orphanBeside : ByteArray := prog_4_method_16_code
def yX2_orphanBeside : MethodName := ⟨RX2, "orphanBeside", "(III)Z"⟩
abbrev cX2_greatestIn : ByteArray := prog_4_method_17_code
def yX2_greatestIn : MethodName := ⟨RX2, "greatestIn", "(IIZ)I"⟩
abbrev cX2_greatestOfAll : ByteArray := prog_4_method_18_code
def yX2_greatestOfAll : MethodName := ⟨RX2, "greatestOfAll", "(IZ)I"⟩
abbrev cX2_give : ByteArray := prog_4_method_19_code
def yX2_give : MethodName := ⟨RX2, "give", "(IIII)V"⟩
abbrev cX2_freeOwnedBy : ByteArray := prog_4_method_20_code
def yX2_freeOwnedBy : MethodName := ⟨RX2, "freeOwnedBy", "(I)V"⟩
abbrev cX2_priceOwnedBy : ByteArray := prog_4_method_21_code
def yX2_priceOwnedBy : MethodName := ⟨RX2, "priceOwnedBy", "(I)I"⟩
def RX3 : String := "BoxofficeRow$TicketBook"
def TX3 : u_T := fun k => match k with
  | 0 => ("BoxofficeRow$TicketBook", "states", "[I", true)
  | 1 => ("BoxofficeRow$TicketBook", "sizes", "[I", true)
  | 2 => ("BoxofficeRow$TicketBook", "ends", "[I", true)
  | 3 => ("BoxofficeRow$TicketBook", "extensions", "[I", true)
  | 4 => ("BoxofficeRow$TicketBook", "paid", "[I", true)
  | 5 => ("BoxofficeRow$TicketBook", "placeRows", "[I", true)
  | 6 => ("BoxofficeRow$TicketBook", "placeFirsts", "[I", true)
  | 7 => ("BoxofficeRow$TicketBook", "wishes", "[I", true)
  | _ => ("BoxofficeRow$TicketBook", "granted", "I", false)
def tyX3 : Nat → FieldType := fun k => match k with
  | 0 => .array .int
  | 1 => .array .int
  | 2 => .array .int
  | 3 => .array .int
  | 4 => .array .int
  | 5 => .array .int
  | 6 => .array .int
  | 7 => .array .int
  | _ => .int
abbrev wsX30 : List Cond := u_ws RX3 TX3 9
theorem nmX3 : ∀ a, a < 9 → ∀ b, b < 9 → a ≠ b → (TX3 a).2.1 ≠ (TX3 b).2.1 := by decide +kernel
theorem tyX3_ok : ∀ k, k < 9 → parseFieldDescriptor (TX3 k).2.2.1 = some (tyX3 k) := by decide +kernel
abbrev cX3_init : ByteArray := prog_5_method_1_code
def yX3_init : MethodName := ⟨RX3, "<init>", "()V"⟩
abbrev cX3_count : ByteArray := prog_5_method_2_code
def yX3_count : MethodName := ⟨RX3, "count", "()I"⟩
abbrev cX3_hasTicket : ByteArray := prog_5_method_3_code
def yX3_hasTicket : MethodName := ⟨RX3, "hasTicket", "(I)Z"⟩
abbrev cX3_open : ByteArray := prog_5_method_4_code
def yX3_open : MethodName := ⟨RX3, "open", "(II)I"⟩
abbrev cX3_stateOf : ByteArray := prog_5_method_5_code
def yX3_stateOf : MethodName := ⟨RX3, "stateOf", "(I)I"⟩
abbrev cX3_isOpen : ByteArray := prog_5_method_6_code
def yX3_isOpen : MethodName := ⟨RX3, "isOpen", "(I)Z"⟩
abbrev cX3_sizeOf : ByteArray := prog_5_method_7_code
def yX3_sizeOf : MethodName := ⟨RX3, "sizeOf", "(I)I"⟩
abbrev cX3_endOf : ByteArray := prog_5_method_8_code
def yX3_endOf : MethodName := ⟨RX3, "endOf", "(I)I"⟩
abbrev cX3_extensionsOf : ByteArray := prog_5_method_9_code
def yX3_extensionsOf : MethodName := ⟨RX3, "extensionsOf", "(I)I"⟩
abbrev cX3_paidFor : ByteArray := prog_5_method_10_code
def yX3_paidFor : MethodName := ⟨RX3, "paidFor", "(I)I"⟩
abbrev cX3_rowOf : ByteArray := prog_5_method_11_code
def yX3_rowOf : MethodName := ⟨RX3, "rowOf", "(I)I"⟩
abbrev cX3_firstOf : ByteArray := prog_5_method_12_code
def yX3_firstOf : MethodName := ⟨RX3, "firstOf", "(I)I"⟩
abbrev cX3_wishOf : ByteArray := prog_5_method_13_code
def yX3_wishOf : MethodName := ⟨RX3, "wishOf", "(I)I"⟩
abbrev cX3_prolong : ByteArray := prog_5_method_14_code
def yX3_prolong : MethodName := ⟨RX3, "prolong", "(II)V"⟩
abbrev cX3_turnIntoBooking : ByteArray := prog_5_method_15_code
def yX3_turnIntoBooking : MethodName := ⟨RX3, "turnIntoBooking", "(II)V"⟩
abbrev cX3_close : ByteArray := prog_5_method_16_code
def yX3_close : MethodName := ⟨RX3, "close", "(II)V"⟩
abbrev cX3_putAt : ByteArray := prog_5_method_17_code
def yX3_putAt : MethodName := ⟨RX3, "putAt", "(III)V"⟩
abbrev cX3_setWish : ByteArray := prog_5_method_18_code
def yX3_setWish : MethodName := ⟨RX3, "setWish", "(II)V"⟩
abbrev cX3_earliestEnd : ByteArray := prog_5_method_19_code
def yX3_earliestEnd : MethodName := ⟨RX3, "earliestEnd", "()I"⟩
def RX4 : String := "BoxofficeRow"
def TX4 : u_T := fun k => match k with
  | 0 => ("BoxofficeRow", "hall", "LBoxofficeRow$Hall;", true)
  | 1 => ("BoxofficeRow", "book", "LBoxofficeRow$TicketBook;", true)
  | 2 => ("BoxofficeRow", "split", "LBoxofficeRow$GroupSplit;", true)
  | 3 => ("BoxofficeRow", "chain", "LBoxofficeRow$ExchangeChain;", true)
  | 4 => ("BoxofficeRow", "minute", "I", false)
  | _ => ("BoxofficeRow", "balance", "I", false)
def tyX4 : Nat → FieldType := fun k => match k with
  | 0 => .object "BoxofficeRow$Hall"
  | 1 => .object "BoxofficeRow$TicketBook"
  | 2 => .object "BoxofficeRow$GroupSplit"
  | 3 => .object "BoxofficeRow$ExchangeChain"
  | 4 => .int
  | _ => .int
abbrev wsX40 : List Cond := u_ws RX4 TX4 6
theorem nmX4 : ∀ a, a < 6 → ∀ b, b < 6 → a ≠ b → (TX4 a).2.1 ≠ (TX4 b).2.1 := by decide +kernel
theorem tyX4_ok : ∀ k, k < 6 → parseFieldDescriptor (TX4 k).2.2.1 = some (tyX4 k) := by decide +kernel
abbrev cX4_init : ByteArray := prog_1_method_1_code
def yX4_init : MethodName := ⟨RX4, "<init>", "()V"⟩
abbrev cX4_addRow : ByteArray := prog_1_method_2_code
def yX4_addRow : MethodName := ⟨RX4, "addRow", "(III)I"⟩
abbrev cX4_toggleBlocked : ByteArray := prog_1_method_3_code
def yX4_toggleBlocked : MethodName := ⟨RX4, "toggleBlocked", "(II)Z"⟩
abbrev cX4_rows : ByteArray := prog_1_method_4_code
def yX4_rows : MethodName := ⟨RX4, "rows", "()I"⟩
abbrev cX4_state : ByteArray := prog_1_method_5_code
def yX4_state : MethodName := ⟨RX4, "state", "(II)I"⟩
abbrev cX4_ticketAt : ByteArray := prog_1_method_6_code
def yX4_ticketAt : MethodName := ⟨RX4, "ticketAt", "(II)I"⟩
abbrev cX4_value : ByteArray := prog_1_method_7_code
def yX4_value : MethodName := ⟨RX4, "value", "(II)I"⟩
abbrev cX4_freeSeats : ByteArray := prog_1_method_8_code
def yX4_freeSeats : MethodName := ⟨RX4, "freeSeats", "(I)I"⟩
abbrev cX4_orphans : ByteArray := prog_1_method_9_code
def yX4_orphans : MethodName := ⟨RX4, "orphans", "()I"⟩
abbrev cX4_longestBlock : ByteArray := prog_1_method_10_code
def yX4_longestBlock : MethodName := ⟨RX4, "longestBlock", "()I"⟩
abbrev cX4_bestBlock : ByteArray := prog_1_method_11_code
def yX4_bestBlock : MethodName := ⟨RX4, "bestBlock", "(I)I"⟩
abbrev cX4_leavesOrphan : ByteArray := prog_1_method_12_code
def yX4_leavesOrphan : MethodName := ⟨RX4, "leavesOrphan", "(I)Z"⟩
abbrev cX4_hold : ByteArray := prog_1_method_13_code
def yX4_hold : MethodName := ⟨RX4, "hold", "(II)I"⟩
abbrev cX4_holdAt : ByteArray := prog_1_method_14_code
def yX4_holdAt : MethodName := ⟨RX4, "holdAt", "(IIII)I"⟩
abbrev cX4_rowsForGroup : ByteArray := prog_1_method_15_code
def yX4_rowsForGroup : MethodName := ⟨RX4, "rowsForGroup", "(I)I"⟩
abbrev cX4_seatsForGroup : ByteArray := prog_1_method_16_code
def yX4_seatsForGroup : MethodName := ⟨RX4, "seatsForGroup", "(II)I"⟩
abbrev cX4_holdGroup : ByteArray := prog_1_method_17_code
def yX4_holdGroup : MethodName := ⟨RX4, "holdGroup", "(II)I"⟩
abbrev cX4_tickets : ByteArray := prog_1_method_18_code
def yX4_tickets : MethodName := ⟨RX4, "tickets", "()I"⟩
abbrev cX4_ticketState : ByteArray := prog_1_method_19_code
def yX4_ticketState : MethodName := ⟨RX4, "ticketState", "(I)I"⟩
abbrev cX4_seatsOf : ByteArray := prog_1_method_20_code
def yX4_seatsOf : MethodName := ⟨RX4, "seatsOf", "(I)I"⟩
abbrev cX4_priceOf : ByteArray := prog_1_method_21_code
def yX4_priceOf : MethodName := ⟨RX4, "priceOf", "(I)I"⟩
abbrev cX4_extend : ByteArray := prog_1_method_22_code
def yX4_extend : MethodName := ⟨RX4, "extend", "(II)I"⟩
abbrev cX4_pay : ByteArray := prog_1_method_23_code
def yX4_pay : MethodName := ⟨RX4, "pay", "(I)I"⟩
abbrev cX4_cancel : ByteArray := prog_1_method_24_code
def yX4_cancel : MethodName := ⟨RX4, "cancel", "(I)I"⟩
abbrev cX4_takings : ByteArray := prog_1_method_25_code
def yX4_takings : MethodName := ⟨RX4, "takings", "()I"⟩
abbrev cX4_now : ByteArray := prog_1_method_26_code
def yX4_now : MethodName := ⟨RX4, "now", "()I"⟩
abbrev cX4_pass : ByteArray := prog_1_method_27_code
def yX4_pass : MethodName := ⟨RX4, "pass", "(I)I"⟩
abbrev cX4_nextExpiry : ByteArray := prog_1_method_28_code
def yX4_nextExpiry : MethodName := ⟨RX4, "nextExpiry", "()I"⟩
abbrev cX4_wish : ByteArray := prog_1_method_29_code
def yX4_wish : MethodName := ⟨RX4, "wish", "(II)I"⟩
abbrev cX4_exchange : ByteArray := prog_1_method_30_code
def yX4_exchange : MethodName := ⟨RX4, "exchange", "(I)I"⟩
abbrev cX4_needRow : ByteArray := prog_1_method_31_code
def yX4_needRow : MethodName := ⟨RX4, "needRow", "(I)V"⟩
abbrev cX4_needSeat : ByteArray := prog_1_method_32_code
def yX4_needSeat : MethodName := ⟨RX4, "needSeat", "(II)V"⟩
abbrev cX4_needTicket : ByteArray := prog_1_method_33_code
def yX4_needTicket : MethodName := ⟨RX4, "needTicket", "(I)V"⟩
abbrev cX4_needRange : ByteArray := prog_1_method_34_code
def yX4_needRange : MethodName := ⟨RX4, "needRange", "(III)V"⟩
abbrev cX4_needSeats : ByteArray := prog_1_method_35_code
def yX4_needSeats : MethodName := ⟨RX4, "needSeats", "(I)V"⟩
abbrev cX4_needMinutes : ByteArray := prog_1_method_36_code
def yX4_needMinutes : MethodName := ⟨RX4, "needMinutes", "(I)V"⟩
abbrev cX4_needPeople : ByteArray := prog_1_method_37_code
def yX4_needPeople : MethodName := ⟨RX4, "needPeople", "(I)V"⟩
abbrev cX4_needHold : ByteArray := prog_1_method_38_code
def yX4_needHold : MethodName := ⟨RX4, "needHold", "(I)V"⟩
abbrev cX4_needTicketLeft : ByteArray := prog_1_method_39_code
def yX4_needTicketLeft : MethodName := ⟨RX4, "needTicketLeft", "()V"⟩
abbrev cX4_needBest : ByteArray := prog_1_method_40_code
def yX4_needBest : MethodName := ⟨RX4, "needBest", "(I)I"⟩
abbrev cX4_needSplit : ByteArray := prog_1_method_41_code
def yX4_needSplit : MethodName := ⟨RX4, "needSplit", "(I)V"⟩
abbrev cX4_grantBlock : ByteArray := prog_1_method_42_code
def yX4_grantBlock : MethodName := ⟨RX4, "grantBlock", "(IIII)I"⟩
abbrev cX4_grantSplit : ByteArray := prog_1_method_43_code
def yX4_grantSplit : MethodName := ⟨RX4, "grantSplit", "(II)I"⟩
abbrev cX4_closeTicket : ByteArray := prog_1_method_44_code
def yX4_closeTicket : MethodName := ⟨RX4, "closeTicket", "(II)V"⟩
def RX5 : String := "BoxofficeRowModel"
def TX5 : u_T := fun k => match k with
  | 0 => ("BoxofficeRowModel", "thrown", "I", false)
  | 1 => ("BoxofficeRowModel", "now", "I", false)
  | 2 => ("BoxofficeRowModel", "takings", "I", false)
  | 3 => ("BoxofficeRowModel", "rows", "I", false)
  | 4 => ("BoxofficeRowModel", "wide", "[I", true)
  | 5 => ("BoxofficeRowModel", "scores", "[I", true)
  | 6 => ("BoxofficeRowModel", "prices", "[I", true)
  | 7 => ("BoxofficeRowModel", "owners", "[I", true)
  | 8 => ("BoxofficeRowModel", "tickets", "I", false)
  | 9 => ("BoxofficeRowModel", "states", "[I", true)
  | 10 => ("BoxofficeRowModel", "ends", "[I", true)
  | 11 => ("BoxofficeRowModel", "extended", "[I", true)
  | 12 => ("BoxofficeRowModel", "paid", "[I", true)
  | 13 => ("BoxofficeRowModel", "wishes", "[I", true)
  | 14 => ("BoxofficeRowModel", "split", "[I", true)
  | 15 => ("BoxofficeRowModel", "taken", "[I", true)
  | 16 => ("BoxofficeRowModel", "far", "[I", true)
  | 17 => ("BoxofficeRowModel", "chain", "[I", true)
  | _ => ("BoxofficeRowModel", "firsts", "[I", true)
def tyX5 : Nat → FieldType := fun k => match k with
  | 0 => .int
  | 1 => .int
  | 2 => .int
  | 3 => .int
  | 4 => .array .int
  | 5 => .array .int
  | 6 => .array .int
  | 7 => .array .int
  | 8 => .int
  | 9 => .array .int
  | 10 => .array .int
  | 11 => .array .int
  | 12 => .array .int
  | 13 => .array .int
  | 14 => .array .int
  | 15 => .array .int
  | 16 => .array .int
  | 17 => .array .int
  | _ => .array .int
abbrev wsX50 : List Cond := u_ws RX5 TX5 19
theorem nmX5 : ∀ a, a < 19 → ∀ b, b < 19 → a ≠ b → (TX5 a).2.1 ≠ (TX5 b).2.1 := by decide +kernel
theorem tyX5_ok : ∀ k, k < 19 → parseFieldDescriptor (TX5 k).2.2.1 = some (tyX5 k) := by decide +kernel
abbrev cX5_init : ByteArray := prog_7_method_1_code
def yX5_init : MethodName := ⟨RX5, "<init>", "()V"⟩
abbrev cX5_thrown : ByteArray := prog_7_method_2_code
def yX5_thrown : MethodName := ⟨RX5, "thrown", "()I"⟩
abbrev cX5_holds : ByteArray := prog_7_method_3_code
def yX5_holds : MethodName := ⟨RX5, "holds", "(I)Z"⟩
abbrev cX5_in : ByteArray := prog_7_method_4_code
def yX5_in : MethodName := ⟨RX5, "in", "(III)Z"⟩
abbrev cX5_addRow : ByteArray := prog_7_method_5_code
def yX5_addRow : MethodName := ⟨RX5, "addRow", "(III)I"⟩
abbrev cX5_isRow : ByteArray := prog_7_method_6_code
def yX5_isRow : MethodName := ⟨RX5, "isRow", "(I)Z"⟩
abbrev cX5_isSeat : ByteArray := prog_7_method_7_code
def yX5_isSeat : MethodName := ⟨RX5, "isSeat", "(II)Z"⟩
abbrev cX5_isFree : ByteArray := prog_7_method_8_code
def yX5_isFree : MethodName := ⟨RX5, "isFree", "(II)Z"⟩
abbrev cX5_toggleBlocked : ByteArray := prog_7_method_9_code
def yX5_toggleBlocked : MethodName := ⟨RX5, "toggleBlocked", "(II)Z"⟩
abbrev cX5_rows : ByteArray := prog_7_method_10_code
def yX5_rows : MethodName := ⟨RX5, "rows", "()I"⟩
abbrev cX5_state : ByteArray := prog_7_method_11_code
def yX5_state : MethodName := ⟨RX5, "state", "(II)I"⟩
abbrev cX5_ticketAt : ByteArray := prog_7_method_12_code
def yX5_ticketAt : MethodName := ⟨RX5, "ticketAt", "(II)I"⟩
abbrev cX5_worth : ByteArray := prog_7_method_13_code
def yX5_worth : MethodName := ⟨RX5, "worth", "(II)I"⟩
abbrev cX5_value : ByteArray := prog_7_method_14_code
def yX5_value : MethodName := ⟨RX5, "value", "(II)I"⟩
abbrev cX5_frees : ByteArray := prog_7_method_15_code
def yX5_frees : MethodName := ⟨RX5, "frees", "(I)I"⟩
abbrev cX5_freeSeats : ByteArray := prog_7_method_16_code
def yX5_freeSeats : MethodName := ⟨RX5, "freeSeats", "(I)I"⟩
abbrev cX5_orphans : ByteArray := prog_7_method_17_code
def yX5_orphans : MethodName := ⟨RX5, "orphans", "()I"⟩
abbrev cX5_run : ByteArray := prog_7_method_18_code
def yX5_run : MethodName := ⟨RX5, "run", "(II)I"⟩
abbrev cX5_longestBlock : ByteArray := prog_7_method_19_code
def yX5_longestBlock : MethodName := ⟨RX5, "longestBlock", "()I"⟩
abbrev cX5_sum : ByteArray := prog_7_method_20_code
def yX5_sum : MethodName := ⟨RX5, "sum", "(III)I"⟩
abbrev cX5_hasOrphan : ByteArray := prog_7_method_21_code
def yX5_hasOrphan : MethodName := ⟨RX5, "hasOrphan", "(III)Z"⟩
abbrev cX5_firstIn : ByteArray := prog_7_method_22_code
def yX5_firstIn : MethodName := ⟨RX5, "firstIn", "(IIZ)I"⟩
abbrev cX5_bestOf : ByteArray := prog_7_method_23_code
def yX5_bestOf : MethodName := ⟨RX5, "bestOf", "(IZ)I"⟩
abbrev cX5_best : ByteArray := prog_7_method_24_code
def yX5_best : MethodName := ⟨RX5, "best", "(I)I"⟩
abbrev cX5_bestBlock : ByteArray := prog_7_method_25_code
def yX5_bestBlock : MethodName := ⟨RX5, "bestBlock", "(I)I"⟩
abbrev cX5_leavesOrphan : ByteArray := prog_7_method_26_code
def yX5_leavesOrphan : MethodName := ⟨RX5, "leavesOrphan", "(I)Z"⟩
abbrev cX5_owns : ByteArray := prog_7_method_27_code
def yX5_owns : MethodName := ⟨RX5, "owns", "(IIII)V"⟩
abbrev cX5_grants : ByteArray := prog_7_method_28_code
def yX5_grants : MethodName := ⟨RX5, "grants", "(I)I"⟩
abbrev cX5_isMinutes : ByteArray := prog_7_method_29_code
def yX5_isMinutes : MethodName := ⟨RX5, "isMinutes", "(I)Z"⟩
abbrev cX5_hold : ByteArray := prog_7_method_30_code
def yX5_hold : MethodName := ⟨RX5, "hold", "(II)I"⟩
abbrev cX5_holdAt : ByteArray := prog_7_method_31_code
def yX5_holdAt : MethodName := ⟨RX5, "holdAt", "(IIII)I"⟩
abbrev cX5_place : ByteArray := prog_7_method_32_code
def yX5_place : MethodName := ⟨RX5, "place", "(III)I"⟩
abbrev cX5_given : ByteArray := prog_7_method_33_code
def yX5_given : MethodName := ⟨RX5, "given", "(IIII)I"⟩
abbrev cX5_laysSplits : ByteArray := prog_7_method_34_code
def yX5_laysSplits : MethodName := ⟨RX5, "laysSplits", "()V"⟩
abbrev cX5_laysSeats : ByteArray := prog_7_method_35_code
def yX5_laysSeats : MethodName := ⟨RX5, "laysSeats", "(II)V"⟩
abbrev cX5_splits : ByteArray := prog_7_method_36_code
def yX5_splits : MethodName := ⟨RX5, "splits", "(I)I"⟩
abbrev cX5_isGroup : ByteArray := prog_7_method_37_code
def yX5_isGroup : MethodName := ⟨RX5, "isGroup", "(I)Z"⟩
abbrev cX5_rowsForGroup : ByteArray := prog_7_method_38_code
def yX5_rowsForGroup : MethodName := ⟨RX5, "rowsForGroup", "(I)I"⟩
abbrev cX5_seatsForGroup : ByteArray := prog_7_method_39_code
def yX5_seatsForGroup : MethodName := ⟨RX5, "seatsForGroup", "(II)I"⟩
abbrev cX5_holdGroup : ByteArray := prog_7_method_40_code
def yX5_holdGroup : MethodName := ⟨RX5, "holdGroup", "(II)I"⟩
abbrev cX5_isTicket : ByteArray := prog_7_method_41_code
def yX5_isTicket : MethodName := ⟨RX5, "isTicket", "(I)Z"⟩
abbrev cX5_tickets : ByteArray := prog_7_method_42_code
def yX5_tickets : MethodName := ⟨RX5, "tickets", "()I"⟩
abbrev cX5_ticketState : ByteArray := prog_7_method_43_code
def yX5_ticketState : MethodName := ⟨RX5, "ticketState", "(I)I"⟩
abbrev cX5_many : ByteArray := prog_7_method_44_code
def yX5_many : MethodName := ⟨RX5, "many", "(I)I"⟩
abbrev cX5_seatsOf : ByteArray := prog_7_method_45_code
def yX5_seatsOf : MethodName := ⟨RX5, "seatsOf", "(I)I"⟩
abbrev cX5_priced : ByteArray := prog_7_method_46_code
def yX5_priced : MethodName := ⟨RX5, "priced", "(I)I"⟩
abbrev cX5_priceOf : ByteArray := prog_7_method_47_code
def yX5_priceOf : MethodName := ⟨RX5, "priceOf", "(I)I"⟩
abbrev cX5_extend : ByteArray := prog_7_method_48_code
def yX5_extend : MethodName := ⟨RX5, "extend", "(II)I"⟩
abbrev cX5_pay : ByteArray := prog_7_method_49_code
def yX5_pay : MethodName := ⟨RX5, "pay", "(I)I"⟩
abbrev cX5_closes : ByteArray := prog_7_method_50_code
def yX5_closes : MethodName := ⟨RX5, "closes", "(II)V"⟩
abbrev cX5_cancel : ByteArray := prog_7_method_51_code
def yX5_cancel : MethodName := ⟨RX5, "cancel", "(I)I"⟩
abbrev cX5_takings : ByteArray := prog_7_method_52_code
def yX5_takings : MethodName := ⟨RX5, "takings", "()I"⟩
abbrev cX5_now : ByteArray := prog_7_method_53_code
def yX5_now : MethodName := ⟨RX5, "now", "()I"⟩
abbrev cX5_pass : ByteArray := prog_7_method_54_code
def yX5_pass : MethodName := ⟨RX5, "pass", "(I)I"⟩
abbrev cX5_nextExpiry : ByteArray := prog_7_method_55_code
def yX5_nextExpiry : MethodName := ⟨RX5, "nextExpiry", "()I"⟩
abbrev cX5_firstOf : ByteArray := prog_7_method_56_code
def yX5_firstOf : MethodName := ⟨RX5, "firstOf", "(I)I"⟩
abbrev cX5_lastOf : ByteArray := prog_7_method_57_code
def yX5_lastOf : MethodName := ⟨RX5, "lastOf", "(I)I"⟩
abbrev cX5_mayWish : ByteArray := prog_7_method_58_code
def yX5_mayWish : MethodName := ⟨RX5, "mayWish", "(II)Z"⟩
abbrev cX5_wish : ByteArray := prog_7_method_59_code
def yX5_wish : MethodName := ⟨RX5, "wish", "(II)I"⟩
abbrev cX5_hasWish : ByteArray := prog_7_method_60_code
def yX5_hasWish : MethodName := ⟨RX5, "hasWish", "(I)Z"⟩
abbrev cX5_laysFar : ByteArray := prog_7_method_61_code
def yX5_laysFar : MethodName := ⟨RX5, "laysFar", "(II)V"⟩
abbrev cX5_follows : ByteArray := prog_7_method_62_code
def yX5_follows : MethodName := ⟨RX5, "follows", "(II)Z"⟩
abbrev cX5_exchange : ByteArray := prog_7_method_63_code
def yX5_exchange : MethodName := ⟨RX5, "exchange", "(I)I"⟩
abbrev cX5_changes : ByteArray := prog_7_method_64_code
def yX5_changes : MethodName := ⟨RX5, "changes", "(II)V"⟩
def RJ9 : String := "java/lang/Math"
def TJ9 : u_T := fun k => match k with
  | _ => ("", "", "", false)
def tyJ9 : Nat → FieldType := fun k => match k with
  | _ => .int
abbrev wsJ90 : List Cond := u_ws RJ9 TJ9 0
theorem nmJ9 : ∀ a, a < 0 → ∀ b, b < 0 → a ≠ b → (TJ9 a).2.1 ≠ (TJ9 b).2.1 := by decide +kernel
theorem tyJ9_ok : ∀ k, k < 0 → parseFieldDescriptor (TJ9 k).2.2.1 = some (tyJ9 k) := by decide +kernel
abbrev cJ9_abs_0f7a4 : ByteArray := prog_12_method_59_code
def yJ9_abs_0f7a4 : MethodName := ⟨RJ9, "abs", "(I)I"⟩
abbrev cJ9_max_7cf53 : ByteArray := prog_12_method_65_code
def yJ9_max_7cf53 : MethodName := ⟨RJ9, "max", "(II)I"⟩
abbrev cJ9_min_7cf53 : ByteArray := prog_12_method_69_code
def yJ9_min_7cf53 : MethodName := ⟨RJ9, "min", "(II)I"⟩
def RJ0 : String := "java/lang/String"
def TJ0 : u_T := fun k => match k with
  | _ => ("", "", "", false)
def tyJ0 : Nat → FieldType := fun k => match k with
  | _ => .int
abbrev wsJ00 : List Cond := u_ws RJ0 TJ0 0
theorem nmJ0 : ∀ a, a < 0 → ∀ b, b < 0 → a ≠ b → (TJ0 a).2.1 ≠ (TJ0 b).2.1 := by decide +kernel
theorem tyJ0_ok : ∀ k, k < 0 → parseFieldDescriptor (TJ0 k).2.2.1 = some (tyJ0 k) := by decide +kernel
def RL : String := "BoxofficeRowLaw"
abbrev cL_addRow : ByteArray := method_3_code
def yL_addRow : MethodName := ⟨RL, "addRow", "(LBoxofficeRow;III[J)I"⟩
abbrev cL_toggleBlocked : ByteArray := method_4_code
def yL_toggleBlocked : MethodName := ⟨RL, "toggleBlocked", "(LBoxofficeRow;II[J)I"⟩
abbrev cL_state : ByteArray := method_5_code
def yL_state : MethodName := ⟨RL, "state", "(LBoxofficeRow;II[J)I"⟩
abbrev cL_ticketAt : ByteArray := method_6_code
def yL_ticketAt : MethodName := ⟨RL, "ticketAt", "(LBoxofficeRow;II[J)I"⟩
abbrev cL_value : ByteArray := method_7_code
def yL_value : MethodName := ⟨RL, "value", "(LBoxofficeRow;II[J)I"⟩
abbrev cL_freeSeats : ByteArray := method_8_code
def yL_freeSeats : MethodName := ⟨RL, "freeSeats", "(LBoxofficeRow;I[J)I"⟩
abbrev cL_bestBlock : ByteArray := method_9_code
def yL_bestBlock : MethodName := ⟨RL, "bestBlock", "(LBoxofficeRow;I[J)I"⟩
abbrev cL_leavesOrphan : ByteArray := method_10_code
def yL_leavesOrphan : MethodName := ⟨RL, "leavesOrphan", "(LBoxofficeRow;I[J)I"⟩
abbrev cL_hold : ByteArray := method_11_code
def yL_hold : MethodName := ⟨RL, "hold", "(LBoxofficeRow;II[J)I"⟩
abbrev cL_holdAt : ByteArray := method_12_code
def yL_holdAt : MethodName := ⟨RL, "holdAt", "(LBoxofficeRow;IIII[J)I"⟩
abbrev cL_rowsForGroup : ByteArray := method_13_code
def yL_rowsForGroup : MethodName := ⟨RL, "rowsForGroup", "(LBoxofficeRow;I[J)I"⟩
abbrev cL_seatsForGroup : ByteArray := method_14_code
def yL_seatsForGroup : MethodName := ⟨RL, "seatsForGroup", "(LBoxofficeRow;II[J)I"⟩
abbrev cL_holdGroup : ByteArray := method_15_code
def yL_holdGroup : MethodName := ⟨RL, "holdGroup", "(LBoxofficeRow;II[J)I"⟩
abbrev cL_ticketState : ByteArray := method_16_code
def yL_ticketState : MethodName := ⟨RL, "ticketState", "(LBoxofficeRow;I[J)I"⟩
abbrev cL_seatsOf : ByteArray := method_17_code
def yL_seatsOf : MethodName := ⟨RL, "seatsOf", "(LBoxofficeRow;I[J)I"⟩
abbrev cL_priceOf : ByteArray := method_18_code
def yL_priceOf : MethodName := ⟨RL, "priceOf", "(LBoxofficeRow;I[J)I"⟩
abbrev cL_extend : ByteArray := method_19_code
def yL_extend : MethodName := ⟨RL, "extend", "(LBoxofficeRow;II[J)I"⟩
abbrev cL_pay : ByteArray := method_20_code
def yL_pay : MethodName := ⟨RL, "pay", "(LBoxofficeRow;I[J)I"⟩
abbrev cL_cancel : ByteArray := method_21_code
def yL_cancel : MethodName := ⟨RL, "cancel", "(LBoxofficeRow;I[J)I"⟩
abbrev cL_pass : ByteArray := method_22_code
def yL_pass : MethodName := ⟨RL, "pass", "(LBoxofficeRow;I[J)I"⟩
abbrev cL_nextExpiry : ByteArray := method_23_code
def yL_nextExpiry : MethodName := ⟨RL, "nextExpiry", "(LBoxofficeRow;[J)I"⟩
abbrev cL_wish : ByteArray := method_24_code
def yL_wish : MethodName := ⟨RL, "wish", "(LBoxofficeRow;II[J)I"⟩
abbrev cL_exchange : ByteArray := method_25_code
def yL_exchange : MethodName := ⟨RL, "exchange", "(LBoxofficeRow;I[J)I"⟩
abbrev cL_law : ByteArray := code
def yL_law : MethodName := ⟨RL, "law", "([I)Z"⟩
abbrev vwCl : List vw_C := [(RX0, TX0, 6), (RX1, TX1, 8), (RX2, TX2, 5), (RX3, TX3, 9), (RX4, TX4, 6), (RX5, TX5, 19)]
end
section
theorem dX2_init_0 : decode cX2_init 0 = .ok (.aload_n 0, 1) := by decide +kernel
theorem dX2_init_1 : decode cX2_init 1 = .ok (.invokespecial 3, 3) := by decide +kernel
theorem dX2_init_4 : decode cX2_init 4 = .ok (.aload_n 0, 1) := by decide +kernel
theorem dX2_init_5 : decode cX2_init 5 = .ok (.bipush 12, 2) := by decide +kernel
theorem dX2_init_7 : decode cX2_init 7 = .ok (.newarray .int, 2) := by decide +kernel
theorem dX2_init_9 : decode cX2_init 9 = .ok (.putfield 9, 3) := by decide +kernel
theorem dX2_init_12 : decode cX2_init 12 = .ok (.aload_n 0, 1) := by decide +kernel
theorem dX2_init_13 : decode cX2_init 13 = .ok (.bipush 12, 2) := by decide +kernel
theorem dX2_init_15 : decode cX2_init 15 = .ok (.newarray .int, 2) := by decide +kernel
theorem dX2_init_17 : decode cX2_init 17 = .ok (.putfield 15, 3) := by decide +kernel
theorem dX2_init_20 : decode cX2_init 20 = .ok (.aload_n 0, 1) := by decide +kernel
theorem dX2_init_21 : decode cX2_init 21 = .ok (.bipush 12, 2) := by decide +kernel
theorem dX2_init_23 : decode cX2_init 23 = .ok (.newarray .int, 2) := by decide +kernel
theorem dX2_init_25 : decode cX2_init 25 = .ok (.putfield 18, 3) := by decide +kernel
theorem dX2_init_28 : decode cX2_init 28 = .ok (.aload_n 0, 1) := by decide +kernel
theorem dX2_init_29 : decode cX2_init 29 = .ok (.bipush 12, 2) := by decide +kernel
theorem dX2_init_31 : decode cX2_init 31 = .ok (.bipush 20, 2) := by decide +kernel
theorem dX2_init_33 : decode cX2_init 33 = .ok (.multianewarray 21 2, 4) := by decide +kernel
theorem dX2_init_37 : decode cX2_init 37 = .ok (.putfield 23, 3) := by decide +kernel
theorem dX2_init_40 : decode cX2_init 40 = .ok (.aload_n 0, 1) := by decide +kernel
theorem dX2_init_41 : decode cX2_init 41 = .ok (.iconst 0, 1) := by decide +kernel
theorem dX2_init_42 : decode cX2_init 42 = .ok (.putfield 26, 3) := by decide +kernel
theorem dX2_init_45 : decode cX2_init 45 = .ok (.return_, 1) := by decide +kernel
theorem dX2_rowCount_0 : decode cX2_rowCount 0 = .ok (.aload_n 0, 1) := by decide +kernel
theorem dX2_rowCount_1 : decode cX2_rowCount 1 = .ok (.getfield 26, 3) := by decide +kernel
theorem dX2_rowCount_4 : decode cX2_rowCount 4 = .ok (.ireturn, 1) := by decide +kernel
theorem dX2_hasRow_0 : decode cX2_hasRow 0 = .ok (.iload_n 1, 1) := by decide +kernel
theorem dX2_hasRow_1 : decode cX2_hasRow 1 = .ok (.ifCond .lt 15, 3) := by decide +kernel
theorem dX2_hasRow_4 : decode cX2_hasRow 4 = .ok (.iload_n 1, 1) := by decide +kernel
theorem dX2_hasRow_5 : decode cX2_hasRow 5 = .ok (.aload_n 0, 1) := by decide +kernel
theorem dX2_hasRow_6 : decode cX2_hasRow 6 = .ok (.getfield 26, 3) := by decide +kernel
theorem dX2_hasRow_9 : decode cX2_hasRow 9 = .ok (.if_icmp .ge 7, 3) := by decide +kernel
theorem dX2_hasRow_12 : decode cX2_hasRow 12 = .ok (.iconst 1, 1) := by decide +kernel
theorem dX2_hasRow_13 : decode cX2_hasRow 13 = .ok (.goto 4, 3) := by decide +kernel
theorem dX2_hasRow_16 : decode cX2_hasRow 16 = .ok (.iconst 0, 1) := by decide +kernel
theorem dX2_hasRow_17 : decode cX2_hasRow 17 = .ok (.ireturn, 1) := by decide +kernel
theorem dX2_seatsIn_0 : decode cX2_seatsIn 0 = .ok (.iload_n 1, 1) := by decide +kernel
theorem dX2_seatsIn_1 : decode cX2_seatsIn 1 = .ok (.ifCond .lt 20, 3) := by decide +kernel
theorem dX2_seatsIn_4 : decode cX2_seatsIn 4 = .ok (.iload_n 1, 1) := by decide +kernel
theorem dX2_seatsIn_5 : decode cX2_seatsIn 5 = .ok (.aload_n 0, 1) := by decide +kernel
theorem dX2_seatsIn_6 : decode cX2_seatsIn 6 = .ok (.getfield 26, 3) := by decide +kernel
theorem dX2_seatsIn_9 : decode cX2_seatsIn 9 = .ok (.if_icmp .ge 12, 3) := by decide +kernel
theorem dX2_seatsIn_12 : decode cX2_seatsIn 12 = .ok (.aload_n 0, 1) := by decide +kernel
theorem dX2_seatsIn_13 : decode cX2_seatsIn 13 = .ok (.getfield 9, 3) := by decide +kernel
theorem dX2_seatsIn_16 : decode cX2_seatsIn 16 = .ok (.iload_n 1, 1) := by decide +kernel
theorem dX2_seatsIn_17 : decode cX2_seatsIn 17 = .ok (.iaload, 1) := by decide +kernel
theorem dX2_seatsIn_18 : decode cX2_seatsIn 18 = .ok (.goto 4, 3) := by decide +kernel
theorem dX2_seatsIn_21 : decode cX2_seatsIn 21 = .ok (.iconst 0, 1) := by decide +kernel
theorem dX2_seatsIn_22 : decode cX2_seatsIn 22 = .ok (.ireturn, 1) := by decide +kernel
theorem dX2_hasSeat_0 : decode cX2_hasSeat 0 = .ok (.iload_n 1, 1) := by decide +kernel
theorem dX2_hasSeat_1 : decode cX2_hasSeat 1 = .ok (.ifCond .lt 29, 3) := by decide +kernel
theorem dX2_hasSeat_4 : decode cX2_hasSeat 4 = .ok (.iload_n 1, 1) := by decide +kernel
theorem dX2_hasSeat_5 : decode cX2_hasSeat 5 = .ok (.aload_n 0, 1) := by decide +kernel
theorem dX2_hasSeat_6 : decode cX2_hasSeat 6 = .ok (.getfield 26, 3) := by decide +kernel
theorem dX2_hasSeat_9 : decode cX2_hasSeat 9 = .ok (.if_icmp .ge 21, 3) := by decide +kernel
theorem dX2_hasSeat_12 : decode cX2_hasSeat 12 = .ok (.iload_n 2, 1) := by decide +kernel
theorem dX2_hasSeat_13 : decode cX2_hasSeat 13 = .ok (.ifCond .lt 17, 3) := by decide +kernel
theorem dX2_hasSeat_16 : decode cX2_hasSeat 16 = .ok (.iload_n 2, 1) := by decide +kernel
theorem dX2_hasSeat_17 : decode cX2_hasSeat 17 = .ok (.aload_n 0, 1) := by decide +kernel
theorem dX2_hasSeat_18 : decode cX2_hasSeat 18 = .ok (.getfield 9, 3) := by decide +kernel
theorem dX2_hasSeat_21 : decode cX2_hasSeat 21 = .ok (.iload_n 1, 1) := by decide +kernel
theorem dX2_hasSeat_22 : decode cX2_hasSeat 22 = .ok (.iaload, 1) := by decide +kernel
theorem dX2_hasSeat_23 : decode cX2_hasSeat 23 = .ok (.if_icmp .ge 7, 3) := by decide +kernel
theorem dX2_hasSeat_26 : decode cX2_hasSeat 26 = .ok (.iconst 1, 1) := by decide +kernel
theorem dX2_hasSeat_27 : decode cX2_hasSeat 27 = .ok (.goto 4, 3) := by decide +kernel
theorem dX2_hasSeat_30 : decode cX2_hasSeat 30 = .ok (.iconst 0, 1) := by decide +kernel
theorem dX2_hasSeat_31 : decode cX2_hasSeat 31 = .ok (.ireturn, 1) := by decide +kernel
theorem dX2_append_0 : decode cX2_append 0 = .ok (.aload_n 0, 1) := by decide +kernel
theorem dX2_append_1 : decode cX2_append 1 = .ok (.getfield 26, 3) := by decide +kernel
theorem dX2_append_4 : decode cX2_append 4 = .ok (.bipush 12, 2) := by decide +kernel
theorem dX2_append_6 : decode cX2_append 6 = .ok (.if_icmp .ge 14, 3) := by decide +kernel
theorem dX2_append_9 : decode cX2_append 9 = .ok (.iload_n 1, 1) := by decide +kernel
theorem dX2_append_10 : decode cX2_append 10 = .ok (.iconst 1, 1) := by decide +kernel
theorem dX2_append_11 : decode cX2_append 11 = .ok (.if_icmp .lt 9, 3) := by decide +kernel
theorem dX2_append_14 : decode cX2_append 14 = .ok (.iload_n 1, 1) := by decide +kernel
theorem dX2_append_15 : decode cX2_append 15 = .ok (.bipush 20, 2) := by decide +kernel
theorem dX2_append_17 : decode cX2_append 17 = .ok (.if_icmp .le 5, 3) := by decide +kernel
theorem dX2_append_20 : decode cX2_append 20 = .ok (.iconst (-1), 1) := by decide +kernel
theorem dX2_append_21 : decode cX2_append 21 = .ok (.ireturn, 1) := by decide +kernel
theorem dX2_append_22 : decode cX2_append 22 = .ok (.aload_n 0, 1) := by decide +kernel
theorem dX2_append_23 : decode cX2_append 23 = .ok (.getfield 9, 3) := by decide +kernel
theorem dX2_append_26 : decode cX2_append 26 = .ok (.aload_n 0, 1) := by decide +kernel
theorem dX2_append_27 : decode cX2_append 27 = .ok (.getfield 26, 3) := by decide +kernel
theorem dX2_append_30 : decode cX2_append 30 = .ok (.iload_n 1, 1) := by decide +kernel
theorem dX2_append_31 : decode cX2_append 31 = .ok (.iastore, 1) := by decide +kernel
theorem dX2_append_32 : decode cX2_append 32 = .ok (.aload_n 0, 1) := by decide +kernel
theorem dX2_append_33 : decode cX2_append 33 = .ok (.getfield 15, 3) := by decide +kernel
theorem dX2_append_36 : decode cX2_append 36 = .ok (.aload_n 0, 1) := by decide +kernel
theorem dX2_append_37 : decode cX2_append 37 = .ok (.getfield 26, 3) := by decide +kernel
theorem dX2_append_40 : decode cX2_append 40 = .ok (.iload_n 2, 1) := by decide +kernel
theorem dX2_append_41 : decode cX2_append 41 = .ok (.iastore, 1) := by decide +kernel
theorem dX2_append_42 : decode cX2_append 42 = .ok (.aload_n 0, 1) := by decide +kernel
theorem dX2_append_43 : decode cX2_append 43 = .ok (.getfield 18, 3) := by decide +kernel
theorem dX2_append_46 : decode cX2_append 46 = .ok (.aload_n 0, 1) := by decide +kernel
theorem dX2_append_47 : decode cX2_append 47 = .ok (.getfield 26, 3) := by decide +kernel
theorem dX2_append_50 : decode cX2_append 50 = .ok (.iload_n 3, 1) := by decide +kernel
theorem dX2_append_51 : decode cX2_append 51 = .ok (.iastore, 1) := by decide +kernel
theorem dX2_append_52 : decode cX2_append 52 = .ok (.aload_n 0, 1) := by decide +kernel
theorem dX2_append_53 : decode cX2_append 53 = .ok (.dup, 1) := by decide +kernel
theorem dX2_append_54 : decode cX2_append 54 = .ok (.getfield 26, 3) := by decide +kernel
theorem dX2_append_57 : decode cX2_append 57 = .ok (.iconst 1, 1) := by decide +kernel
theorem dX2_append_58 : decode cX2_append 58 = .ok (.iadd, 1) := by decide +kernel
theorem dX2_append_59 : decode cX2_append 59 = .ok (.putfield 26, 3) := by decide +kernel
theorem dX2_append_62 : decode cX2_append 62 = .ok (.aload_n 0, 1) := by decide +kernel
theorem dX2_append_63 : decode cX2_append 63 = .ok (.getfield 26, 3) := by decide +kernel
theorem dX2_append_66 : decode cX2_append 66 = .ok (.iconst 1, 1) := by decide +kernel
theorem dX2_append_67 : decode cX2_append 67 = .ok (.isub, 1) := by decide +kernel
theorem dX2_append_68 : decode cX2_append 68 = .ok (.ireturn, 1) := by decide +kernel
theorem dX2_ownerOf_0 : decode cX2_ownerOf 0 = .ok (.aload_n 0, 1) := by decide +kernel
theorem dX2_ownerOf_1 : decode cX2_ownerOf 1 = .ok (.iload_n 1, 1) := by decide +kernel
theorem dX2_ownerOf_2 : decode cX2_ownerOf 2 = .ok (.iload_n 2, 1) := by decide +kernel
theorem dX2_ownerOf_3 : decode cX2_ownerOf 3 = .ok (.invokevirtual 30, 3) := by decide +kernel
theorem dX2_ownerOf_6 : decode cX2_ownerOf 6 = .ok (.ifCond .eq 14, 3) := by decide +kernel
theorem dX2_ownerOf_9 : decode cX2_ownerOf 9 = .ok (.aload_n 0, 1) := by decide +kernel
theorem dX2_ownerOf_10 : decode cX2_ownerOf 10 = .ok (.getfield 23, 3) := by decide +kernel
theorem dX2_ownerOf_13 : decode cX2_ownerOf 13 = .ok (.iload_n 1, 1) := by decide +kernel
theorem dX2_ownerOf_14 : decode cX2_ownerOf 14 = .ok (.aaload, 1) := by decide +kernel
theorem dX2_ownerOf_15 : decode cX2_ownerOf 15 = .ok (.iload_n 2, 1) := by decide +kernel
theorem dX2_ownerOf_16 : decode cX2_ownerOf 16 = .ok (.iaload, 1) := by decide +kernel
theorem dX2_ownerOf_17 : decode cX2_ownerOf 17 = .ok (.goto 4, 3) := by decide +kernel
theorem dX2_ownerOf_20 : decode cX2_ownerOf 20 = .ok (.iconst (-1), 1) := by decide +kernel
theorem dX2_ownerOf_21 : decode cX2_ownerOf 21 = .ok (.ireturn, 1) := by decide +kernel
theorem dX2_isFree_0 : decode cX2_isFree 0 = .ok (.aload_n 0, 1) := by decide +kernel
theorem dX2_isFree_1 : decode cX2_isFree 1 = .ok (.iload_n 1, 1) := by decide +kernel
theorem dX2_isFree_2 : decode cX2_isFree 2 = .ok (.iload_n 2, 1) := by decide +kernel
theorem dX2_isFree_3 : decode cX2_isFree 3 = .ok (.invokevirtual 30, 3) := by decide +kernel
theorem dX2_isFree_6 : decode cX2_isFree 6 = .ok (.ifCond .eq 18, 3) := by decide +kernel
theorem dX2_isFree_9 : decode cX2_isFree 9 = .ok (.aload_n 0, 1) := by decide +kernel
theorem dX2_isFree_10 : decode cX2_isFree 10 = .ok (.getfield 23, 3) := by decide +kernel
theorem dX2_isFree_13 : decode cX2_isFree 13 = .ok (.iload_n 1, 1) := by decide +kernel
theorem dX2_isFree_14 : decode cX2_isFree 14 = .ok (.aaload, 1) := by decide +kernel
theorem dX2_isFree_15 : decode cX2_isFree 15 = .ok (.iload_n 2, 1) := by decide +kernel
theorem dX2_isFree_16 : decode cX2_isFree 16 = .ok (.iaload, 1) := by decide +kernel
theorem dX2_isFree_17 : decode cX2_isFree 17 = .ok (.ifCond .ne 7, 3) := by decide +kernel
theorem dX2_isFree_20 : decode cX2_isFree 20 = .ok (.iconst 1, 1) := by decide +kernel
theorem dX2_isFree_21 : decode cX2_isFree 21 = .ok (.goto 4, 3) := by decide +kernel
theorem dX2_isFree_24 : decode cX2_isFree 24 = .ok (.iconst 0, 1) := by decide +kernel
theorem dX2_isFree_25 : decode cX2_isFree 25 = .ok (.ireturn, 1) := by decide +kernel
theorem dX2_seatValue_0 : decode cX2_seatValue 0 = .ok (.aload_n 0, 1) := by decide +kernel
theorem dX2_seatValue_1 : decode cX2_seatValue 1 = .ok (.iload_n 1, 1) := by decide +kernel
theorem dX2_seatValue_2 : decode cX2_seatValue 2 = .ok (.iload_n 2, 1) := by decide +kernel
theorem dX2_seatValue_3 : decode cX2_seatValue 3 = .ok (.invokevirtual 30, 3) := by decide +kernel
theorem dX2_seatValue_6 : decode cX2_seatValue 6 = .ok (.ifCond .eq 28, 3) := by decide +kernel
theorem dX2_seatValue_9 : decode cX2_seatValue 9 = .ok (.aload_n 0, 1) := by decide +kernel
theorem dX2_seatValue_10 : decode cX2_seatValue 10 = .ok (.getfield 15, 3) := by decide +kernel
theorem dX2_seatValue_13 : decode cX2_seatValue 13 = .ok (.iload_n 1, 1) := by decide +kernel
theorem dX2_seatValue_14 : decode cX2_seatValue 14 = .ok (.iaload, 1) := by decide +kernel
theorem dX2_seatValue_15 : decode cX2_seatValue 15 = .ok (.iconst 2, 1) := by decide +kernel
theorem dX2_seatValue_16 : decode cX2_seatValue 16 = .ok (.iload_n 2, 1) := by decide +kernel
theorem dX2_seatValue_17 : decode cX2_seatValue 17 = .ok (.imul, 1) := by decide +kernel
theorem dX2_seatValue_18 : decode cX2_seatValue 18 = .ok (.aload_n 0, 1) := by decide +kernel
theorem dX2_seatValue_19 : decode cX2_seatValue 19 = .ok (.getfield 9, 3) := by decide +kernel
theorem dX2_seatValue_22 : decode cX2_seatValue 22 = .ok (.iload_n 1, 1) := by decide +kernel
theorem dX2_seatValue_23 : decode cX2_seatValue 23 = .ok (.iaload, 1) := by decide +kernel
theorem dX2_seatValue_24 : decode cX2_seatValue 24 = .ok (.iconst 1, 1) := by decide +kernel
theorem dX2_seatValue_25 : decode cX2_seatValue 25 = .ok (.isub, 1) := by decide +kernel
theorem dX2_seatValue_26 : decode cX2_seatValue 26 = .ok (.isub, 1) := by decide +kernel
theorem dX2_seatValue_27 : decode cX2_seatValue 27 = .ok (.invokestatic 34, 3) := by decide +kernel
theorem dX2_seatValue_30 : decode cX2_seatValue 30 = .ok (.isub, 1) := by decide +kernel
theorem dX2_seatValue_31 : decode cX2_seatValue 31 = .ok (.goto 4, 3) := by decide +kernel
theorem dX2_seatValue_34 : decode cX2_seatValue 34 = .ok (.iconst 0, 1) := by decide +kernel
theorem dX2_seatValue_35 : decode cX2_seatValue 35 = .ok (.ireturn, 1) := by decide +kernel
theorem dX2_countFree_0 : decode cX2_countFree 0 = .ok (.iconst 0, 1) := by decide +kernel
theorem dX2_countFree_1 : decode cX2_countFree 1 = .ok (.istore_n 2, 1) := by decide +kernel
theorem dX2_countFree_2 : decode cX2_countFree 2 = .ok (.iconst 0, 1) := by decide +kernel
theorem dX2_countFree_3 : decode cX2_countFree 3 = .ok (.istore_n 3, 1) := by decide +kernel
theorem dX2_countFree_4 : decode cX2_countFree 4 = .ok (.iload_n 3, 1) := by decide +kernel
theorem dX2_countFree_5 : decode cX2_countFree 5 = .ok (.aload_n 0, 1) := by decide +kernel
theorem dX2_countFree_6 : decode cX2_countFree 6 = .ok (.iload_n 1, 1) := by decide +kernel
theorem dX2_countFree_7 : decode cX2_countFree 7 = .ok (.invokevirtual 40, 3) := by decide +kernel
theorem dX2_countFree_10 : decode cX2_countFree 10 = .ok (.if_icmp .ge 21, 3) := by decide +kernel
theorem dX2_countFree_13 : decode cX2_countFree 13 = .ok (.aload_n 0, 1) := by decide +kernel
theorem dX2_countFree_14 : decode cX2_countFree 14 = .ok (.iload_n 1, 1) := by decide +kernel
theorem dX2_countFree_15 : decode cX2_countFree 15 = .ok (.iload_n 3, 1) := by decide +kernel
theorem dX2_countFree_16 : decode cX2_countFree 16 = .ok (.invokevirtual 43, 3) := by decide +kernel
theorem dX2_countFree_19 : decode cX2_countFree 19 = .ok (.ifCond .eq 6, 3) := by decide +kernel
theorem dX2_countFree_22 : decode cX2_countFree 22 = .ok (.iinc 2 1, 3) := by decide +kernel
theorem dX2_countFree_25 : decode cX2_countFree 25 = .ok (.iinc 3 1, 3) := by decide +kernel
theorem dX2_countFree_28 : decode cX2_countFree 28 = .ok (.goto (-24), 3) := by decide +kernel
theorem dX2_countFree_31 : decode cX2_countFree 31 = .ok (.iload_n 2, 1) := by decide +kernel
theorem dX2_countFree_32 : decode cX2_countFree 32 = .ok (.ireturn, 1) := by decide +kernel
theorem dX2_countOrphans_0 : decode cX2_countOrphans 0 = .ok (.iconst 0, 1) := by decide +kernel
theorem dX2_countOrphans_1 : decode cX2_countOrphans 1 = .ok (.istore_n 1, 1) := by decide +kernel
theorem dX2_countOrphans_2 : decode cX2_countOrphans 2 = .ok (.iconst 0, 1) := by decide +kernel
theorem dX2_countOrphans_3 : decode cX2_countOrphans 3 = .ok (.istore_n 2, 1) := by decide +kernel
theorem dX2_countOrphans_4 : decode cX2_countOrphans 4 = .ok (.iload_n 2, 1) := by decide +kernel
theorem dX2_countOrphans_5 : decode cX2_countOrphans 5 = .ok (.aload_n 0, 1) := by decide +kernel
theorem dX2_countOrphans_6 : decode cX2_countOrphans 6 = .ok (.getfield 26, 3) := by decide +kernel
theorem dX2_countOrphans_9 : decode cX2_countOrphans 9 = .ok (.if_icmp .ge 60, 3) := by decide +kernel
theorem dX2_countOrphans_12 : decode cX2_countOrphans 12 = .ok (.iconst 0, 1) := by decide +kernel
theorem dX2_countOrphans_13 : decode cX2_countOrphans 13 = .ok (.istore_n 3, 1) := by decide +kernel
theorem dX2_countOrphans_14 : decode cX2_countOrphans 14 = .ok (.iload_n 3, 1) := by decide +kernel
theorem dX2_countOrphans_15 : decode cX2_countOrphans 15 = .ok (.aload_n 0, 1) := by decide +kernel
theorem dX2_countOrphans_16 : decode cX2_countOrphans 16 = .ok (.iload_n 2, 1) := by decide +kernel
theorem dX2_countOrphans_17 : decode cX2_countOrphans 17 = .ok (.invokevirtual 40, 3) := by decide +kernel
theorem dX2_countOrphans_20 : decode cX2_countOrphans 20 = .ok (.if_icmp .ge 43, 3) := by decide +kernel
theorem dX2_countOrphans_23 : decode cX2_countOrphans 23 = .ok (.aload_n 0, 1) := by decide +kernel
theorem dX2_countOrphans_24 : decode cX2_countOrphans 24 = .ok (.iload_n 2, 1) := by decide +kernel
theorem dX2_countOrphans_25 : decode cX2_countOrphans 25 = .ok (.iload_n 3, 1) := by decide +kernel
theorem dX2_countOrphans_26 : decode cX2_countOrphans 26 = .ok (.invokevirtual 43, 3) := by decide +kernel
theorem dX2_countOrphans_29 : decode cX2_countOrphans 29 = .ok (.ifCond .eq 28, 3) := by decide +kernel
theorem dX2_countOrphans_32 : decode cX2_countOrphans 32 = .ok (.aload_n 0, 1) := by decide +kernel
theorem dX2_countOrphans_33 : decode cX2_countOrphans 33 = .ok (.iload_n 2, 1) := by decide +kernel
theorem dX2_countOrphans_34 : decode cX2_countOrphans 34 = .ok (.iload_n 3, 1) := by decide +kernel
theorem dX2_countOrphans_35 : decode cX2_countOrphans 35 = .ok (.iconst 1, 1) := by decide +kernel
theorem dX2_countOrphans_36 : decode cX2_countOrphans 36 = .ok (.isub, 1) := by decide +kernel
theorem dX2_countOrphans_37 : decode cX2_countOrphans 37 = .ok (.invokevirtual 43, 3) := by decide +kernel
theorem dX2_countOrphans_40 : decode cX2_countOrphans 40 = .ok (.ifCond .ne 17, 3) := by decide +kernel
theorem dX2_countOrphans_43 : decode cX2_countOrphans 43 = .ok (.aload_n 0, 1) := by decide +kernel
theorem dX2_countOrphans_44 : decode cX2_countOrphans 44 = .ok (.iload_n 2, 1) := by decide +kernel
theorem dX2_countOrphans_45 : decode cX2_countOrphans 45 = .ok (.iload_n 3, 1) := by decide +kernel
theorem dX2_countOrphans_46 : decode cX2_countOrphans 46 = .ok (.iconst 1, 1) := by decide +kernel
theorem dX2_countOrphans_47 : decode cX2_countOrphans 47 = .ok (.iadd, 1) := by decide +kernel
theorem dX2_countOrphans_48 : decode cX2_countOrphans 48 = .ok (.invokevirtual 43, 3) := by decide +kernel
theorem dX2_countOrphans_51 : decode cX2_countOrphans 51 = .ok (.ifCond .ne 6, 3) := by decide +kernel
theorem dX2_countOrphans_54 : decode cX2_countOrphans 54 = .ok (.iinc 1 1, 3) := by decide +kernel
theorem dX2_countOrphans_57 : decode cX2_countOrphans 57 = .ok (.iinc 3 1, 3) := by decide +kernel
theorem dX2_countOrphans_60 : decode cX2_countOrphans 60 = .ok (.goto (-46), 3) := by decide +kernel
theorem dX2_countOrphans_63 : decode cX2_countOrphans 63 = .ok (.iinc 2 1, 3) := by decide +kernel
theorem dX2_countOrphans_66 : decode cX2_countOrphans 66 = .ok (.goto (-62), 3) := by decide +kernel
theorem dX2_countOrphans_69 : decode cX2_countOrphans 69 = .ok (.iload_n 1, 1) := by decide +kernel
theorem dX2_countOrphans_70 : decode cX2_countOrphans 70 = .ok (.ireturn, 1) := by decide +kernel
theorem dX2_longestFree_0 : decode cX2_longestFree 0 = .ok (.iconst 0, 1) := by decide +kernel
theorem dX2_longestFree_1 : decode cX2_longestFree 1 = .ok (.istore_n 1, 1) := by decide +kernel
theorem dX2_longestFree_2 : decode cX2_longestFree 2 = .ok (.iconst 0, 1) := by decide +kernel
theorem dX2_longestFree_3 : decode cX2_longestFree 3 = .ok (.istore_n 2, 1) := by decide +kernel
theorem dX2_longestFree_4 : decode cX2_longestFree 4 = .ok (.iload_n 2, 1) := by decide +kernel
theorem dX2_longestFree_5 : decode cX2_longestFree 5 = .ok (.aload_n 0, 1) := by decide +kernel
theorem dX2_longestFree_6 : decode cX2_longestFree 6 = .ok (.getfield 26, 3) := by decide +kernel
theorem dX2_longestFree_9 : decode cX2_longestFree 9 = .ok (.if_icmp .ge 19, 3) := by decide +kernel
theorem dX2_longestFree_12 : decode cX2_longestFree 12 = .ok (.iload_n 1, 1) := by decide +kernel
theorem dX2_longestFree_13 : decode cX2_longestFree 13 = .ok (.aload_n 0, 1) := by decide +kernel
theorem dX2_longestFree_14 : decode cX2_longestFree 14 = .ok (.iload_n 2, 1) := by decide +kernel
theorem dX2_longestFree_15 : decode cX2_longestFree 15 = .ok (.invokevirtual 46, 3) := by decide +kernel
theorem dX2_longestFree_18 : decode cX2_longestFree 18 = .ok (.invokestatic 49, 3) := by decide +kernel
theorem dX2_longestFree_21 : decode cX2_longestFree 21 = .ok (.istore_n 1, 1) := by decide +kernel
theorem dX2_longestFree_22 : decode cX2_longestFree 22 = .ok (.iinc 2 1, 3) := by decide +kernel
theorem dX2_longestFree_25 : decode cX2_longestFree 25 = .ok (.goto (-21), 3) := by decide +kernel
theorem dX2_longestFree_28 : decode cX2_longestFree 28 = .ok (.iload_n 1, 1) := by decide +kernel
theorem dX2_longestFree_29 : decode cX2_longestFree 29 = .ok (.ireturn, 1) := by decide +kernel
theorem dX2_longestFreeIn_0 : decode cX2_longestFreeIn 0 = .ok (.iconst 0, 1) := by decide +kernel
theorem dX2_longestFreeIn_1 : decode cX2_longestFreeIn 1 = .ok (.istore_n 2, 1) := by decide +kernel
theorem dX2_longestFreeIn_2 : decode cX2_longestFreeIn 2 = .ok (.iconst 0, 1) := by decide +kernel
theorem dX2_longestFreeIn_3 : decode cX2_longestFreeIn 3 = .ok (.istore_n 3, 1) := by decide +kernel
theorem dX2_longestFreeIn_4 : decode cX2_longestFreeIn 4 = .ok (.iconst 0, 1) := by decide +kernel
theorem dX2_longestFreeIn_5 : decode cX2_longestFreeIn 5 = .ok (.istore 4, 2) := by decide +kernel
theorem dX2_longestFreeIn_7 : decode cX2_longestFreeIn 7 = .ok (.iload 4, 2) := by decide +kernel
theorem dX2_longestFreeIn_9 : decode cX2_longestFreeIn 9 = .ok (.aload_n 0, 1) := by decide +kernel
theorem dX2_longestFreeIn_10 : decode cX2_longestFreeIn 10 = .ok (.iload_n 1, 1) := by decide +kernel
theorem dX2_longestFreeIn_11 : decode cX2_longestFreeIn 11 = .ok (.invokevirtual 40, 3) := by decide +kernel
theorem dX2_longestFreeIn_14 : decode cX2_longestFreeIn 14 = .ok (.if_icmp .ge 33, 3) := by decide +kernel
theorem dX2_longestFreeIn_17 : decode cX2_longestFreeIn 17 = .ok (.aload_n 0, 1) := by decide +kernel
theorem dX2_longestFreeIn_18 : decode cX2_longestFreeIn 18 = .ok (.iload_n 1, 1) := by decide +kernel
theorem dX2_longestFreeIn_19 : decode cX2_longestFreeIn 19 = .ok (.iload 4, 2) := by decide +kernel
theorem dX2_longestFreeIn_21 : decode cX2_longestFreeIn 21 = .ok (.invokevirtual 43, 3) := by decide +kernel
theorem dX2_longestFreeIn_24 : decode cX2_longestFreeIn 24 = .ok (.ifCond .eq 9, 3) := by decide +kernel
theorem dX2_longestFreeIn_27 : decode cX2_longestFreeIn 27 = .ok (.iload_n 3, 1) := by decide +kernel
theorem dX2_longestFreeIn_28 : decode cX2_longestFreeIn 28 = .ok (.iconst 1, 1) := by decide +kernel
theorem dX2_longestFreeIn_29 : decode cX2_longestFreeIn 29 = .ok (.iadd, 1) := by decide +kernel
theorem dX2_longestFreeIn_30 : decode cX2_longestFreeIn 30 = .ok (.goto 4, 3) := by decide +kernel
theorem dX2_longestFreeIn_33 : decode cX2_longestFreeIn 33 = .ok (.iconst 0, 1) := by decide +kernel
theorem dX2_longestFreeIn_34 : decode cX2_longestFreeIn 34 = .ok (.istore_n 3, 1) := by decide +kernel
theorem dX2_longestFreeIn_35 : decode cX2_longestFreeIn 35 = .ok (.iload_n 2, 1) := by decide +kernel
theorem dX2_longestFreeIn_36 : decode cX2_longestFreeIn 36 = .ok (.iload_n 3, 1) := by decide +kernel
theorem dX2_longestFreeIn_37 : decode cX2_longestFreeIn 37 = .ok (.invokestatic 49, 3) := by decide +kernel
theorem dX2_longestFreeIn_40 : decode cX2_longestFreeIn 40 = .ok (.istore_n 2, 1) := by decide +kernel
theorem dX2_longestFreeIn_41 : decode cX2_longestFreeIn 41 = .ok (.iinc 4 1, 3) := by decide +kernel
theorem dX2_longestFreeIn_44 : decode cX2_longestFreeIn 44 = .ok (.goto (-37), 3) := by decide +kernel
theorem dX2_longestFreeIn_47 : decode cX2_longestFreeIn 47 = .ok (.iload_n 2, 1) := by decide +kernel
theorem dX2_longestFreeIn_48 : decode cX2_longestFreeIn 48 = .ok (.ireturn, 1) := by decide +kernel
theorem dX2_isPossible_0 : decode cX2_isPossible 0 = .ok (.iload_n 3, 1) := by decide +kernel
theorem dX2_isPossible_1 : decode cX2_isPossible 1 = .ok (.iconst 1, 1) := by decide +kernel
theorem dX2_isPossible_2 : decode cX2_isPossible 2 = .ok (.if_icmp .lt 18, 3) := by decide +kernel
theorem dX2_isPossible_5 : decode cX2_isPossible 5 = .ok (.iload_n 2, 1) := by decide +kernel
theorem dX2_isPossible_6 : decode cX2_isPossible 6 = .ok (.ifCond .lt 14, 3) := by decide +kernel
theorem dX2_isPossible_9 : decode cX2_isPossible 9 = .ok (.iload_n 2, 1) := by decide +kernel
theorem dX2_isPossible_10 : decode cX2_isPossible 10 = .ok (.aload_n 0, 1) := by decide +kernel
theorem dX2_isPossible_11 : decode cX2_isPossible 11 = .ok (.iload_n 1, 1) := by decide +kernel
theorem dX2_isPossible_12 : decode cX2_isPossible 12 = .ok (.invokevirtual 40, 3) := by decide +kernel
theorem dX2_isPossible_15 : decode cX2_isPossible 15 = .ok (.iload_n 3, 1) := by decide +kernel
theorem dX2_isPossible_16 : decode cX2_isPossible 16 = .ok (.isub, 1) := by decide +kernel
theorem dX2_isPossible_17 : decode cX2_isPossible 17 = .ok (.if_icmp .le 5, 3) := by decide +kernel
theorem dX2_isPossible_20 : decode cX2_isPossible 20 = .ok (.iconst 0, 1) := by decide +kernel
theorem dX2_isPossible_21 : decode cX2_isPossible 21 = .ok (.ireturn, 1) := by decide +kernel
theorem dX2_isPossible_22 : decode cX2_isPossible 22 = .ok (.iload_n 2, 1) := by decide +kernel
theorem dX2_isPossible_23 : decode cX2_isPossible 23 = .ok (.istore 4, 2) := by decide +kernel
theorem dX2_isPossible_25 : decode cX2_isPossible 25 = .ok (.iload 4, 2) := by decide +kernel
theorem dX2_isPossible_27 : decode cX2_isPossible 27 = .ok (.iload_n 2, 1) := by decide +kernel
theorem dX2_isPossible_28 : decode cX2_isPossible 28 = .ok (.iload_n 3, 1) := by decide +kernel
theorem dX2_isPossible_29 : decode cX2_isPossible 29 = .ok (.iadd, 1) := by decide +kernel
theorem dX2_isPossible_30 : decode cX2_isPossible 30 = .ok (.if_icmp .ge 23, 3) := by decide +kernel
theorem dX2_isPossible_33 : decode cX2_isPossible 33 = .ok (.aload_n 0, 1) := by decide +kernel
theorem dX2_isPossible_34 : decode cX2_isPossible 34 = .ok (.getfield 23, 3) := by decide +kernel
theorem dX2_isPossible_37 : decode cX2_isPossible 37 = .ok (.iload_n 1, 1) := by decide +kernel
theorem dX2_isPossible_38 : decode cX2_isPossible 38 = .ok (.aaload, 1) := by decide +kernel
theorem dX2_isPossible_39 : decode cX2_isPossible 39 = .ok (.iload 4, 2) := by decide +kernel
theorem dX2_isPossible_41 : decode cX2_isPossible 41 = .ok (.iaload, 1) := by decide +kernel
theorem dX2_isPossible_42 : decode cX2_isPossible 42 = .ok (.ifCond .eq 5, 3) := by decide +kernel
theorem dX2_isPossible_45 : decode cX2_isPossible 45 = .ok (.iconst 0, 1) := by decide +kernel
theorem dX2_isPossible_46 : decode cX2_isPossible 46 = .ok (.ireturn, 1) := by decide +kernel
theorem dX2_isPossible_47 : decode cX2_isPossible 47 = .ok (.iinc 4 1, 3) := by decide +kernel
theorem dX2_isPossible_50 : decode cX2_isPossible 50 = .ok (.goto (-25), 3) := by decide +kernel
theorem dX2_isPossible_53 : decode cX2_isPossible 53 = .ok (.iconst 1, 1) := by decide +kernel
theorem dX2_isPossible_54 : decode cX2_isPossible 54 = .ok (.ireturn, 1) := by decide +kernel
theorem dX2_blockValue_0 : decode cX2_blockValue 0 = .ok (.iconst 0, 1) := by decide +kernel
theorem dX2_blockValue_1 : decode cX2_blockValue 1 = .ok (.istore 4, 2) := by decide +kernel
theorem dX2_blockValue_3 : decode cX2_blockValue 3 = .ok (.iload_n 2, 1) := by decide +kernel
theorem dX2_blockValue_4 : decode cX2_blockValue 4 = .ok (.istore 5, 2) := by decide +kernel
theorem dX2_blockValue_6 : decode cX2_blockValue 6 = .ok (.iload 5, 2) := by decide +kernel
theorem dX2_blockValue_8 : decode cX2_blockValue 8 = .ok (.iload_n 2, 1) := by decide +kernel
theorem dX2_blockValue_9 : decode cX2_blockValue 9 = .ok (.iload_n 3, 1) := by decide +kernel
theorem dX2_blockValue_10 : decode cX2_blockValue 10 = .ok (.iadd, 1) := by decide +kernel
theorem dX2_blockValue_11 : decode cX2_blockValue 11 = .ok (.if_icmp .ge 21, 3) := by decide +kernel
theorem dX2_blockValue_14 : decode cX2_blockValue 14 = .ok (.iload 4, 2) := by decide +kernel
theorem dX2_blockValue_16 : decode cX2_blockValue 16 = .ok (.aload_n 0, 1) := by decide +kernel
theorem dX2_blockValue_17 : decode cX2_blockValue 17 = .ok (.iload_n 1, 1) := by decide +kernel
theorem dX2_blockValue_18 : decode cX2_blockValue 18 = .ok (.iload 5, 2) := by decide +kernel
theorem dX2_blockValue_20 : decode cX2_blockValue 20 = .ok (.invokevirtual 53, 3) := by decide +kernel
theorem dX2_blockValue_23 : decode cX2_blockValue 23 = .ok (.iadd, 1) := by decide +kernel
theorem dX2_blockValue_24 : decode cX2_blockValue 24 = .ok (.istore 4, 2) := by decide +kernel
theorem dX2_blockValue_26 : decode cX2_blockValue 26 = .ok (.iinc 5 1, 3) := by decide +kernel
theorem dX2_blockValue_29 : decode cX2_blockValue 29 = .ok (.goto (-23), 3) := by decide +kernel
theorem dX2_blockValue_32 : decode cX2_blockValue 32 = .ok (.iload 4, 2) := by decide +kernel
theorem dX2_blockValue_34 : decode cX2_blockValue 34 = .ok (.ireturn, 1) := by decide +kernel
theorem dX2_orphanBeside_0 : decode cX2_orphanBeside 0 = .ok (.iload_n 2, 1) := by decide +kernel
theorem dX2_orphanBeside_1 : decode cX2_orphanBeside 1 = .ok (.iconst 1, 1) := by decide +kernel
theorem dX2_orphanBeside_2 : decode cX2_orphanBeside 2 = .ok (.isub, 1) := by decide +kernel
theorem dX2_orphanBeside_3 : decode cX2_orphanBeside 3 = .ok (.istore 4, 2) := by decide +kernel
theorem dX2_orphanBeside_5 : decode cX2_orphanBeside 5 = .ok (.iload_n 2, 1) := by decide +kernel
theorem dX2_orphanBeside_6 : decode cX2_orphanBeside 6 = .ok (.iload_n 3, 1) := by decide +kernel
theorem dX2_orphanBeside_7 : decode cX2_orphanBeside 7 = .ok (.iadd, 1) := by decide +kernel
theorem dX2_orphanBeside_8 : decode cX2_orphanBeside 8 = .ok (.istore 5, 2) := by decide +kernel
theorem dX2_orphanBeside_10 : decode cX2_orphanBeside 10 = .ok (.aload_n 0, 1) := by decide +kernel
theorem dX2_orphanBeside_11 : decode cX2_orphanBeside 11 = .ok (.iload_n 1, 1) := by decide +kernel
theorem dX2_orphanBeside_12 : decode cX2_orphanBeside 12 = .ok (.iload 4, 2) := by decide +kernel
theorem dX2_orphanBeside_14 : decode cX2_orphanBeside 14 = .ok (.invokevirtual 43, 3) := by decide +kernel
theorem dX2_orphanBeside_17 : decode cX2_orphanBeside 17 = .ok (.ifCond .eq 15, 3) := by decide +kernel
theorem dX2_orphanBeside_20 : decode cX2_orphanBeside 20 = .ok (.aload_n 0, 1) := by decide +kernel
theorem dX2_orphanBeside_21 : decode cX2_orphanBeside 21 = .ok (.iload_n 1, 1) := by decide +kernel
theorem dX2_orphanBeside_22 : decode cX2_orphanBeside 22 = .ok (.iload 4, 2) := by decide +kernel
theorem dX2_orphanBeside_24 : decode cX2_orphanBeside 24 = .ok (.iconst 1, 1) := by decide +kernel
theorem dX2_orphanBeside_25 : decode cX2_orphanBeside 25 = .ok (.isub, 1) := by decide +kernel
theorem dX2_orphanBeside_26 : decode cX2_orphanBeside 26 = .ok (.invokevirtual 43, 3) := by decide +kernel
theorem dX2_orphanBeside_29 : decode cX2_orphanBeside 29 = .ok (.ifCond .eq 25, 3) := by decide +kernel
theorem dX2_orphanBeside_32 : decode cX2_orphanBeside 32 = .ok (.aload_n 0, 1) := by decide +kernel
theorem dX2_orphanBeside_33 : decode cX2_orphanBeside 33 = .ok (.iload_n 1, 1) := by decide +kernel
theorem dX2_orphanBeside_34 : decode cX2_orphanBeside 34 = .ok (.iload 5, 2) := by decide +kernel
theorem dX2_orphanBeside_36 : decode cX2_orphanBeside 36 = .ok (.invokevirtual 43, 3) := by decide +kernel
theorem dX2_orphanBeside_39 : decode cX2_orphanBeside 39 = .ok (.ifCond .eq 19, 3) := by decide +kernel
theorem dX2_orphanBeside_42 : decode cX2_orphanBeside 42 = .ok (.aload_n 0, 1) := by decide +kernel
theorem dX2_orphanBeside_43 : decode cX2_orphanBeside 43 = .ok (.iload_n 1, 1) := by decide +kernel
theorem dX2_orphanBeside_44 : decode cX2_orphanBeside 44 = .ok (.iload 5, 2) := by decide +kernel
theorem dX2_orphanBeside_46 : decode cX2_orphanBeside 46 = .ok (.iconst 1, 1) := by decide +kernel
theorem dX2_orphanBeside_47 : decode cX2_orphanBeside 47 = .ok (.iadd, 1) := by decide +kernel
theorem dX2_orphanBeside_48 : decode cX2_orphanBeside 48 = .ok (.invokevirtual 43, 3) := by decide +kernel
theorem dX2_orphanBeside_51 : decode cX2_orphanBeside 51 = .ok (.ifCond .ne 7, 3) := by decide +kernel
theorem dX2_orphanBeside_54 : decode cX2_orphanBeside 54 = .ok (.iconst 1, 1) := by decide +kernel
theorem dX2_orphanBeside_55 : decode cX2_orphanBeside 55 = .ok (.goto 4, 3) := by decide +kernel
theorem dX2_orphanBeside_58 : decode cX2_orphanBeside 58 = .ok (.iconst 0, 1) := by decide +kernel
theorem dX2_orphanBeside_59 : decode cX2_orphanBeside 59 = .ok (.ireturn, 1) := by decide +kernel
theorem dX2_greatestIn_0 : decode cX2_greatestIn 0 = .ok (.iconst (-1), 1) := by decide +kernel
theorem dX2_greatestIn_1 : decode cX2_greatestIn 1 = .ok (.istore 4, 2) := by decide +kernel
theorem dX2_greatestIn_3 : decode cX2_greatestIn 3 = .ok (.iconst 0, 1) := by decide +kernel
theorem dX2_greatestIn_4 : decode cX2_greatestIn 4 = .ok (.istore 5, 2) := by decide +kernel
theorem dX2_greatestIn_6 : decode cX2_greatestIn 6 = .ok (.aload_n 0, 1) := by decide +kernel
theorem dX2_greatestIn_7 : decode cX2_greatestIn 7 = .ok (.iload_n 1, 1) := by decide +kernel
theorem dX2_greatestIn_8 : decode cX2_greatestIn 8 = .ok (.invokevirtual 40, 3) := by decide +kernel
theorem dX2_greatestIn_11 : decode cX2_greatestIn 11 = .ok (.iload_n 2, 1) := by decide +kernel
theorem dX2_greatestIn_12 : decode cX2_greatestIn 12 = .ok (.isub, 1) := by decide +kernel
theorem dX2_greatestIn_13 : decode cX2_greatestIn 13 = .ok (.istore 6, 2) := by decide +kernel
theorem dX2_greatestIn_15 : decode cX2_greatestIn 15 = .ok (.iconst 0, 1) := by decide +kernel
theorem dX2_greatestIn_16 : decode cX2_greatestIn 16 = .ok (.istore 7, 2) := by decide +kernel
theorem dX2_greatestIn_18 : decode cX2_greatestIn 18 = .ok (.iload 7, 2) := by decide +kernel
theorem dX2_greatestIn_20 : decode cX2_greatestIn 20 = .ok (.iload 6, 2) := by decide +kernel
theorem dX2_greatestIn_22 : decode cX2_greatestIn 22 = .ok (.if_icmp .gt 66, 3) := by decide +kernel
theorem dX2_greatestIn_25 : decode cX2_greatestIn 25 = .ok (.aload_n 0, 1) := by decide +kernel
theorem dX2_greatestIn_26 : decode cX2_greatestIn 26 = .ok (.iload_n 1, 1) := by decide +kernel
theorem dX2_greatestIn_27 : decode cX2_greatestIn 27 = .ok (.iload 7, 2) := by decide +kernel
theorem dX2_greatestIn_29 : decode cX2_greatestIn 29 = .ok (.iload_n 2, 1) := by decide +kernel
theorem dX2_greatestIn_30 : decode cX2_greatestIn 30 = .ok (.invokevirtual 56, 3) := by decide +kernel
theorem dX2_greatestIn_33 : decode cX2_greatestIn 33 = .ok (.ifCond .eq 49, 3) := by decide +kernel
theorem dX2_greatestIn_36 : decode cX2_greatestIn 36 = .ok (.iload_n 3, 1) := by decide +kernel
theorem dX2_greatestIn_37 : decode cX2_greatestIn 37 = .ok (.ifCond .ne 14, 3) := by decide +kernel
theorem dX2_greatestIn_40 : decode cX2_greatestIn 40 = .ok (.aload_n 0, 1) := by decide +kernel
theorem dX2_greatestIn_41 : decode cX2_greatestIn 41 = .ok (.iload_n 1, 1) := by decide +kernel
theorem dX2_greatestIn_42 : decode cX2_greatestIn 42 = .ok (.iload 7, 2) := by decide +kernel
theorem dX2_greatestIn_44 : decode cX2_greatestIn 44 = .ok (.iload_n 2, 1) := by decide +kernel
theorem dX2_greatestIn_45 : decode cX2_greatestIn 45 = .ok (.invokevirtual 60, 3) := by decide +kernel
theorem dX2_greatestIn_48 : decode cX2_greatestIn 48 = .ok (.ifCond .ne 34, 3) := by decide +kernel
theorem dX2_greatestIn_51 : decode cX2_greatestIn 51 = .ok (.aload_n 0, 1) := by decide +kernel
theorem dX2_greatestIn_52 : decode cX2_greatestIn 52 = .ok (.iload_n 1, 1) := by decide +kernel
theorem dX2_greatestIn_53 : decode cX2_greatestIn 53 = .ok (.iload 7, 2) := by decide +kernel
theorem dX2_greatestIn_55 : decode cX2_greatestIn 55 = .ok (.iload_n 2, 1) := by decide +kernel
theorem dX2_greatestIn_56 : decode cX2_greatestIn 56 = .ok (.invokevirtual 63, 3) := by decide +kernel
theorem dX2_greatestIn_59 : decode cX2_greatestIn 59 = .ok (.istore 8, 2) := by decide +kernel
theorem dX2_greatestIn_61 : decode cX2_greatestIn 61 = .ok (.iload 4, 2) := by decide +kernel
theorem dX2_greatestIn_63 : decode cX2_greatestIn 63 = .ok (.iconst (-1), 1) := by decide +kernel
theorem dX2_greatestIn_64 : decode cX2_greatestIn 64 = .ok (.if_icmp .eq 10, 3) := by decide +kernel
theorem dX2_greatestIn_67 : decode cX2_greatestIn 67 = .ok (.iload 8, 2) := by decide +kernel
theorem dX2_greatestIn_69 : decode cX2_greatestIn 69 = .ok (.iload 5, 2) := by decide +kernel
theorem dX2_greatestIn_71 : decode cX2_greatestIn 71 = .ok (.if_icmp .le 11, 3) := by decide +kernel
theorem dX2_greatestIn_74 : decode cX2_greatestIn 74 = .ok (.iload 7, 2) := by decide +kernel
theorem dX2_greatestIn_76 : decode cX2_greatestIn 76 = .ok (.istore 4, 2) := by decide +kernel
theorem dX2_greatestIn_78 : decode cX2_greatestIn 78 = .ok (.iload 8, 2) := by decide +kernel
theorem dX2_greatestIn_80 : decode cX2_greatestIn 80 = .ok (.istore 5, 2) := by decide +kernel
theorem dX2_greatestIn_82 : decode cX2_greatestIn 82 = .ok (.iinc 7 1, 3) := by decide +kernel
theorem dX2_greatestIn_85 : decode cX2_greatestIn 85 = .ok (.goto (-67), 3) := by decide +kernel
theorem dX2_greatestIn_88 : decode cX2_greatestIn 88 = .ok (.iload 4, 2) := by decide +kernel
theorem dX2_greatestIn_90 : decode cX2_greatestIn 90 = .ok (.ireturn, 1) := by decide +kernel
theorem dX2_greatestOfAll_0 : decode cX2_greatestOfAll 0 = .ok (.iconst (-1), 1) := by decide +kernel
theorem dX2_greatestOfAll_1 : decode cX2_greatestOfAll 1 = .ok (.istore_n 3, 1) := by decide +kernel
theorem dX2_greatestOfAll_2 : decode cX2_greatestOfAll 2 = .ok (.iconst 0, 1) := by decide +kernel
theorem dX2_greatestOfAll_3 : decode cX2_greatestOfAll 3 = .ok (.istore 4, 2) := by decide +kernel
theorem dX2_greatestOfAll_5 : decode cX2_greatestOfAll 5 = .ok (.iconst 0, 1) := by decide +kernel
theorem dX2_greatestOfAll_6 : decode cX2_greatestOfAll 6 = .ok (.istore 5, 2) := by decide +kernel
theorem dX2_greatestOfAll_8 : decode cX2_greatestOfAll 8 = .ok (.iload 5, 2) := by decide +kernel
theorem dX2_greatestOfAll_10 : decode cX2_greatestOfAll 10 = .ok (.aload_n 0, 1) := by decide +kernel
theorem dX2_greatestOfAll_11 : decode cX2_greatestOfAll 11 = .ok (.getfield 26, 3) := by decide +kernel
theorem dX2_greatestOfAll_14 : decode cX2_greatestOfAll 14 = .ok (.if_icmp .ge 61, 3) := by decide +kernel
theorem dX2_greatestOfAll_17 : decode cX2_greatestOfAll 17 = .ok (.aload_n 0, 1) := by decide +kernel
theorem dX2_greatestOfAll_18 : decode cX2_greatestOfAll 18 = .ok (.iload 5, 2) := by decide +kernel
theorem dX2_greatestOfAll_20 : decode cX2_greatestOfAll 20 = .ok (.iload_n 1, 1) := by decide +kernel
theorem dX2_greatestOfAll_21 : decode cX2_greatestOfAll 21 = .ok (.iload_n 2, 1) := by decide +kernel
theorem dX2_greatestOfAll_22 : decode cX2_greatestOfAll 22 = .ok (.invokevirtual 67, 3) := by decide +kernel
theorem dX2_greatestOfAll_25 : decode cX2_greatestOfAll 25 = .ok (.istore 6, 2) := by decide +kernel
theorem dX2_greatestOfAll_27 : decode cX2_greatestOfAll 27 = .ok (.iload 6, 2) := by decide +kernel
theorem dX2_greatestOfAll_29 : decode cX2_greatestOfAll 29 = .ok (.iconst (-1), 1) := by decide +kernel
theorem dX2_greatestOfAll_30 : decode cX2_greatestOfAll 30 = .ok (.if_icmp .eq 39, 3) := by decide +kernel
theorem dX2_greatestOfAll_33 : decode cX2_greatestOfAll 33 = .ok (.aload_n 0, 1) := by decide +kernel
theorem dX2_greatestOfAll_34 : decode cX2_greatestOfAll 34 = .ok (.iload 5, 2) := by decide +kernel
theorem dX2_greatestOfAll_36 : decode cX2_greatestOfAll 36 = .ok (.iload 6, 2) := by decide +kernel
theorem dX2_greatestOfAll_38 : decode cX2_greatestOfAll 38 = .ok (.iload_n 1, 1) := by decide +kernel
theorem dX2_greatestOfAll_39 : decode cX2_greatestOfAll 39 = .ok (.invokevirtual 63, 3) := by decide +kernel
theorem dX2_greatestOfAll_42 : decode cX2_greatestOfAll 42 = .ok (.istore 7, 2) := by decide +kernel
theorem dX2_greatestOfAll_44 : decode cX2_greatestOfAll 44 = .ok (.iload_n 3, 1) := by decide +kernel
theorem dX2_greatestOfAll_45 : decode cX2_greatestOfAll 45 = .ok (.iconst (-1), 1) := by decide +kernel
theorem dX2_greatestOfAll_46 : decode cX2_greatestOfAll 46 = .ok (.if_icmp .eq 10, 3) := by decide +kernel
theorem dX2_greatestOfAll_49 : decode cX2_greatestOfAll 49 = .ok (.iload 7, 2) := by decide +kernel
theorem dX2_greatestOfAll_51 : decode cX2_greatestOfAll 51 = .ok (.iload 4, 2) := by decide +kernel
theorem dX2_greatestOfAll_53 : decode cX2_greatestOfAll 53 = .ok (.if_icmp .le 16, 3) := by decide +kernel
theorem dX2_greatestOfAll_56 : decode cX2_greatestOfAll 56 = .ok (.bipush 100, 2) := by decide +kernel
theorem dX2_greatestOfAll_58 : decode cX2_greatestOfAll 58 = .ok (.iload 5, 2) := by decide +kernel
theorem dX2_greatestOfAll_60 : decode cX2_greatestOfAll 60 = .ok (.imul, 1) := by decide +kernel
theorem dX2_greatestOfAll_61 : decode cX2_greatestOfAll 61 = .ok (.iload 6, 2) := by decide +kernel
theorem dX2_greatestOfAll_63 : decode cX2_greatestOfAll 63 = .ok (.iadd, 1) := by decide +kernel
theorem dX2_greatestOfAll_64 : decode cX2_greatestOfAll 64 = .ok (.istore_n 3, 1) := by decide +kernel
theorem dX2_greatestOfAll_65 : decode cX2_greatestOfAll 65 = .ok (.iload 7, 2) := by decide +kernel
theorem dX2_greatestOfAll_67 : decode cX2_greatestOfAll 67 = .ok (.istore 4, 2) := by decide +kernel
theorem dX2_greatestOfAll_69 : decode cX2_greatestOfAll 69 = .ok (.iinc 5 1, 3) := by decide +kernel
theorem dX2_greatestOfAll_72 : decode cX2_greatestOfAll 72 = .ok (.goto (-64), 3) := by decide +kernel
theorem dX2_greatestOfAll_75 : decode cX2_greatestOfAll 75 = .ok (.iload_n 3, 1) := by decide +kernel
theorem dX2_greatestOfAll_76 : decode cX2_greatestOfAll 76 = .ok (.ireturn, 1) := by decide +kernel
theorem dX2_give_0 : decode cX2_give 0 = .ok (.iload_n 2, 1) := by decide +kernel
theorem dX2_give_1 : decode cX2_give 1 = .ok (.istore 5, 2) := by decide +kernel
theorem dX2_give_3 : decode cX2_give 3 = .ok (.iload 5, 2) := by decide +kernel
theorem dX2_give_5 : decode cX2_give 5 = .ok (.iload_n 2, 1) := by decide +kernel
theorem dX2_give_6 : decode cX2_give 6 = .ok (.iload_n 3, 1) := by decide +kernel
theorem dX2_give_7 : decode cX2_give 7 = .ok (.iadd, 1) := by decide +kernel
theorem dX2_give_8 : decode cX2_give 8 = .ok (.if_icmp .ge 30, 3) := by decide +kernel
theorem dX2_give_11 : decode cX2_give 11 = .ok (.aload_n 0, 1) := by decide +kernel
theorem dX2_give_12 : decode cX2_give 12 = .ok (.iload_n 1, 1) := by decide +kernel
theorem dX2_give_13 : decode cX2_give 13 = .ok (.iload 5, 2) := by decide +kernel
theorem dX2_give_15 : decode cX2_give 15 = .ok (.invokevirtual 30, 3) := by decide +kernel
theorem dX2_give_18 : decode cX2_give 18 = .ok (.ifCond .eq 14, 3) := by decide +kernel
theorem dX2_give_21 : decode cX2_give 21 = .ok (.aload_n 0, 1) := by decide +kernel
theorem dX2_give_22 : decode cX2_give 22 = .ok (.getfield 23, 3) := by decide +kernel
theorem dX2_give_25 : decode cX2_give 25 = .ok (.iload_n 1, 1) := by decide +kernel
theorem dX2_give_26 : decode cX2_give 26 = .ok (.aaload, 1) := by decide +kernel
theorem dX2_give_27 : decode cX2_give 27 = .ok (.iload 5, 2) := by decide +kernel
theorem dX2_give_29 : decode cX2_give 29 = .ok (.iload 4, 2) := by decide +kernel
theorem dX2_give_31 : decode cX2_give 31 = .ok (.iastore, 1) := by decide +kernel
theorem dX2_give_32 : decode cX2_give 32 = .ok (.iinc 5 1, 3) := by decide +kernel
theorem dX2_give_35 : decode cX2_give 35 = .ok (.goto (-32), 3) := by decide +kernel
theorem dX2_give_38 : decode cX2_give 38 = .ok (.return_, 1) := by decide +kernel
theorem dX2_freeOwnedBy_0 : decode cX2_freeOwnedBy 0 = .ok (.iconst 0, 1) := by decide +kernel
theorem dX2_freeOwnedBy_1 : decode cX2_freeOwnedBy 1 = .ok (.istore_n 2, 1) := by decide +kernel
theorem dX2_freeOwnedBy_2 : decode cX2_freeOwnedBy 2 = .ok (.iload_n 2, 1) := by decide +kernel
theorem dX2_freeOwnedBy_3 : decode cX2_freeOwnedBy 3 = .ok (.aload_n 0, 1) := by decide +kernel
theorem dX2_freeOwnedBy_4 : decode cX2_freeOwnedBy 4 = .ok (.getfield 26, 3) := by decide +kernel
theorem dX2_freeOwnedBy_7 : decode cX2_freeOwnedBy 7 = .ok (.if_icmp .ge 47, 3) := by decide +kernel
theorem dX2_freeOwnedBy_10 : decode cX2_freeOwnedBy 10 = .ok (.iconst 0, 1) := by decide +kernel
theorem dX2_freeOwnedBy_11 : decode cX2_freeOwnedBy 11 = .ok (.istore_n 3, 1) := by decide +kernel
theorem dX2_freeOwnedBy_12 : decode cX2_freeOwnedBy 12 = .ok (.iload_n 3, 1) := by decide +kernel
theorem dX2_freeOwnedBy_13 : decode cX2_freeOwnedBy 13 = .ok (.aload_n 0, 1) := by decide +kernel
theorem dX2_freeOwnedBy_14 : decode cX2_freeOwnedBy 14 = .ok (.iload_n 2, 1) := by decide +kernel
theorem dX2_freeOwnedBy_15 : decode cX2_freeOwnedBy 15 = .ok (.invokevirtual 40, 3) := by decide +kernel
theorem dX2_freeOwnedBy_18 : decode cX2_freeOwnedBy 18 = .ok (.if_icmp .ge 30, 3) := by decide +kernel
theorem dX2_freeOwnedBy_21 : decode cX2_freeOwnedBy 21 = .ok (.aload_n 0, 1) := by decide +kernel
theorem dX2_freeOwnedBy_22 : decode cX2_freeOwnedBy 22 = .ok (.getfield 23, 3) := by decide +kernel
theorem dX2_freeOwnedBy_25 : decode cX2_freeOwnedBy 25 = .ok (.iload_n 2, 1) := by decide +kernel
theorem dX2_freeOwnedBy_26 : decode cX2_freeOwnedBy 26 = .ok (.aaload, 1) := by decide +kernel
theorem dX2_freeOwnedBy_27 : decode cX2_freeOwnedBy 27 = .ok (.iload_n 3, 1) := by decide +kernel
theorem dX2_freeOwnedBy_28 : decode cX2_freeOwnedBy 28 = .ok (.iaload, 1) := by decide +kernel
theorem dX2_freeOwnedBy_29 : decode cX2_freeOwnedBy 29 = .ok (.iload_n 1, 1) := by decide +kernel
theorem dX2_freeOwnedBy_30 : decode cX2_freeOwnedBy 30 = .ok (.if_icmp .ne 12, 3) := by decide +kernel
theorem dX2_freeOwnedBy_33 : decode cX2_freeOwnedBy 33 = .ok (.aload_n 0, 1) := by decide +kernel
theorem dX2_freeOwnedBy_34 : decode cX2_freeOwnedBy 34 = .ok (.getfield 23, 3) := by decide +kernel
theorem dX2_freeOwnedBy_37 : decode cX2_freeOwnedBy 37 = .ok (.iload_n 2, 1) := by decide +kernel
theorem dX2_freeOwnedBy_38 : decode cX2_freeOwnedBy 38 = .ok (.aaload, 1) := by decide +kernel
theorem dX2_freeOwnedBy_39 : decode cX2_freeOwnedBy 39 = .ok (.iload_n 3, 1) := by decide +kernel
theorem dX2_freeOwnedBy_40 : decode cX2_freeOwnedBy 40 = .ok (.iconst 0, 1) := by decide +kernel
theorem dX2_freeOwnedBy_41 : decode cX2_freeOwnedBy 41 = .ok (.iastore, 1) := by decide +kernel
theorem dX2_freeOwnedBy_42 : decode cX2_freeOwnedBy 42 = .ok (.iinc 3 1, 3) := by decide +kernel
theorem dX2_freeOwnedBy_45 : decode cX2_freeOwnedBy 45 = .ok (.goto (-33), 3) := by decide +kernel
theorem dX2_freeOwnedBy_48 : decode cX2_freeOwnedBy 48 = .ok (.iinc 2 1, 3) := by decide +kernel
theorem dX2_freeOwnedBy_51 : decode cX2_freeOwnedBy 51 = .ok (.goto (-49), 3) := by decide +kernel
theorem dX2_freeOwnedBy_54 : decode cX2_freeOwnedBy 54 = .ok (.return_, 1) := by decide +kernel
theorem dX2_priceOwnedBy_0 : decode cX2_priceOwnedBy 0 = .ok (.iconst 0, 1) := by decide +kernel
theorem dX2_priceOwnedBy_1 : decode cX2_priceOwnedBy 1 = .ok (.istore_n 2, 1) := by decide +kernel
theorem dX2_priceOwnedBy_2 : decode cX2_priceOwnedBy 2 = .ok (.iconst 0, 1) := by decide +kernel
theorem dX2_priceOwnedBy_3 : decode cX2_priceOwnedBy 3 = .ok (.istore_n 3, 1) := by decide +kernel
theorem dX2_priceOwnedBy_4 : decode cX2_priceOwnedBy 4 = .ok (.iload_n 3, 1) := by decide +kernel
theorem dX2_priceOwnedBy_5 : decode cX2_priceOwnedBy 5 = .ok (.aload_n 0, 1) := by decide +kernel
theorem dX2_priceOwnedBy_6 : decode cX2_priceOwnedBy 6 = .ok (.getfield 26, 3) := by decide +kernel
theorem dX2_priceOwnedBy_9 : decode cX2_priceOwnedBy 9 = .ok (.if_icmp .ge 50, 3) := by decide +kernel
theorem dX2_priceOwnedBy_12 : decode cX2_priceOwnedBy 12 = .ok (.iconst 0, 1) := by decide +kernel
theorem dX2_priceOwnedBy_13 : decode cX2_priceOwnedBy 13 = .ok (.istore 4, 2) := by decide +kernel
theorem dX2_priceOwnedBy_15 : decode cX2_priceOwnedBy 15 = .ok (.iload 4, 2) := by decide +kernel
theorem dX2_priceOwnedBy_17 : decode cX2_priceOwnedBy 17 = .ok (.aload_n 0, 1) := by decide +kernel
theorem dX2_priceOwnedBy_18 : decode cX2_priceOwnedBy 18 = .ok (.iload_n 3, 1) := by decide +kernel
theorem dX2_priceOwnedBy_19 : decode cX2_priceOwnedBy 19 = .ok (.invokevirtual 40, 3) := by decide +kernel
theorem dX2_priceOwnedBy_22 : decode cX2_priceOwnedBy 22 = .ok (.if_icmp .ge 31, 3) := by decide +kernel
theorem dX2_priceOwnedBy_25 : decode cX2_priceOwnedBy 25 = .ok (.aload_n 0, 1) := by decide +kernel
theorem dX2_priceOwnedBy_26 : decode cX2_priceOwnedBy 26 = .ok (.getfield 23, 3) := by decide +kernel
theorem dX2_priceOwnedBy_29 : decode cX2_priceOwnedBy 29 = .ok (.iload_n 3, 1) := by decide +kernel
theorem dX2_priceOwnedBy_30 : decode cX2_priceOwnedBy 30 = .ok (.aaload, 1) := by decide +kernel
theorem dX2_priceOwnedBy_31 : decode cX2_priceOwnedBy 31 = .ok (.iload 4, 2) := by decide +kernel
theorem dX2_priceOwnedBy_33 : decode cX2_priceOwnedBy 33 = .ok (.iaload, 1) := by decide +kernel
theorem dX2_priceOwnedBy_34 : decode cX2_priceOwnedBy 34 = .ok (.iload_n 1, 1) := by decide +kernel
theorem dX2_priceOwnedBy_35 : decode cX2_priceOwnedBy 35 = .ok (.if_icmp .ne 12, 3) := by decide +kernel
theorem dX2_priceOwnedBy_38 : decode cX2_priceOwnedBy 38 = .ok (.iload_n 2, 1) := by decide +kernel
theorem dX2_priceOwnedBy_39 : decode cX2_priceOwnedBy 39 = .ok (.aload_n 0, 1) := by decide +kernel
theorem dX2_priceOwnedBy_40 : decode cX2_priceOwnedBy 40 = .ok (.getfield 18, 3) := by decide +kernel
theorem dX2_priceOwnedBy_43 : decode cX2_priceOwnedBy 43 = .ok (.iload_n 3, 1) := by decide +kernel
theorem dX2_priceOwnedBy_44 : decode cX2_priceOwnedBy 44 = .ok (.iaload, 1) := by decide +kernel
theorem dX2_priceOwnedBy_45 : decode cX2_priceOwnedBy 45 = .ok (.iadd, 1) := by decide +kernel
theorem dX2_priceOwnedBy_46 : decode cX2_priceOwnedBy 46 = .ok (.istore_n 2, 1) := by decide +kernel
theorem dX2_priceOwnedBy_47 : decode cX2_priceOwnedBy 47 = .ok (.iinc 4 1, 3) := by decide +kernel
theorem dX2_priceOwnedBy_50 : decode cX2_priceOwnedBy 50 = .ok (.goto (-35), 3) := by decide +kernel
theorem dX2_priceOwnedBy_53 : decode cX2_priceOwnedBy 53 = .ok (.iinc 3 1, 3) := by decide +kernel
theorem dX2_priceOwnedBy_56 : decode cX2_priceOwnedBy 56 = .ok (.goto (-52), 3) := by decide +kernel
theorem dX2_priceOwnedBy_59 : decode cX2_priceOwnedBy 59 = .ok (.iload_n 2, 1) := by decide +kernel
theorem dX2_priceOwnedBy_60 : decode cX2_priceOwnedBy 60 = .ok (.ireturn, 1) := by decide +kernel
theorem dX3_init_0 : decode cX3_init 0 = .ok (.aload_n 0, 1) := by decide +kernel
theorem dX3_init_1 : decode cX3_init 1 = .ok (.invokespecial 3, 3) := by decide +kernel
theorem dX3_init_4 : decode cX3_init 4 = .ok (.aload_n 0, 1) := by decide +kernel
theorem dX3_init_5 : decode cX3_init 5 = .ok (.bipush 101, 2) := by decide +kernel
theorem dX3_init_7 : decode cX3_init 7 = .ok (.newarray .int, 2) := by decide +kernel
theorem dX3_init_9 : decode cX3_init 9 = .ok (.putfield 9, 3) := by decide +kernel
theorem dX3_init_12 : decode cX3_init 12 = .ok (.aload_n 0, 1) := by decide +kernel
theorem dX3_init_13 : decode cX3_init 13 = .ok (.bipush 101, 2) := by decide +kernel
theorem dX3_init_15 : decode cX3_init 15 = .ok (.newarray .int, 2) := by decide +kernel
theorem dX3_init_17 : decode cX3_init 17 = .ok (.putfield 15, 3) := by decide +kernel
theorem dX3_init_20 : decode cX3_init 20 = .ok (.aload_n 0, 1) := by decide +kernel
theorem dX3_init_21 : decode cX3_init 21 = .ok (.bipush 101, 2) := by decide +kernel
theorem dX3_init_23 : decode cX3_init 23 = .ok (.newarray .int, 2) := by decide +kernel
theorem dX3_init_25 : decode cX3_init 25 = .ok (.putfield 18, 3) := by decide +kernel
theorem dX3_init_28 : decode cX3_init 28 = .ok (.aload_n 0, 1) := by decide +kernel
theorem dX3_init_29 : decode cX3_init 29 = .ok (.bipush 101, 2) := by decide +kernel
theorem dX3_init_31 : decode cX3_init 31 = .ok (.newarray .int, 2) := by decide +kernel
theorem dX3_init_33 : decode cX3_init 33 = .ok (.putfield 21, 3) := by decide +kernel
theorem dX3_init_36 : decode cX3_init 36 = .ok (.aload_n 0, 1) := by decide +kernel
theorem dX3_init_37 : decode cX3_init 37 = .ok (.bipush 101, 2) := by decide +kernel
theorem dX3_init_39 : decode cX3_init 39 = .ok (.newarray .int, 2) := by decide +kernel
theorem dX3_init_41 : decode cX3_init 41 = .ok (.putfield 24, 3) := by decide +kernel
theorem dX3_init_44 : decode cX3_init 44 = .ok (.aload_n 0, 1) := by decide +kernel
theorem dX3_init_45 : decode cX3_init 45 = .ok (.bipush 101, 2) := by decide +kernel
theorem dX3_init_47 : decode cX3_init 47 = .ok (.newarray .int, 2) := by decide +kernel
theorem dX3_init_49 : decode cX3_init 49 = .ok (.putfield 27, 3) := by decide +kernel
theorem dX3_init_52 : decode cX3_init 52 = .ok (.aload_n 0, 1) := by decide +kernel
theorem dX3_init_53 : decode cX3_init 53 = .ok (.bipush 101, 2) := by decide +kernel
theorem dX3_init_55 : decode cX3_init 55 = .ok (.newarray .int, 2) := by decide +kernel
theorem dX3_init_57 : decode cX3_init 57 = .ok (.putfield 30, 3) := by decide +kernel
theorem dX3_init_60 : decode cX3_init 60 = .ok (.aload_n 0, 1) := by decide +kernel
theorem dX3_init_61 : decode cX3_init 61 = .ok (.bipush 101, 2) := by decide +kernel
theorem dX3_init_63 : decode cX3_init 63 = .ok (.newarray .int, 2) := by decide +kernel
theorem dX3_init_65 : decode cX3_init 65 = .ok (.putfield 33, 3) := by decide +kernel
theorem dX3_init_68 : decode cX3_init 68 = .ok (.aload_n 0, 1) := by decide +kernel
theorem dX3_init_69 : decode cX3_init 69 = .ok (.iconst 0, 1) := by decide +kernel
theorem dX3_init_70 : decode cX3_init 70 = .ok (.putfield 36, 3) := by decide +kernel
theorem dX3_init_73 : decode cX3_init 73 = .ok (.return_, 1) := by decide +kernel
theorem dX3_count_0 : decode cX3_count 0 = .ok (.aload_n 0, 1) := by decide +kernel
theorem dX3_count_1 : decode cX3_count 1 = .ok (.getfield 36, 3) := by decide +kernel
theorem dX3_count_4 : decode cX3_count 4 = .ok (.ireturn, 1) := by decide +kernel
theorem dX3_hasTicket_0 : decode cX3_hasTicket 0 = .ok (.iload_n 1, 1) := by decide +kernel
theorem dX3_hasTicket_1 : decode cX3_hasTicket 1 = .ok (.iconst 1, 1) := by decide +kernel
theorem dX3_hasTicket_2 : decode cX3_hasTicket 2 = .ok (.if_icmp .lt 15, 3) := by decide +kernel
theorem dX3_hasTicket_5 : decode cX3_hasTicket 5 = .ok (.iload_n 1, 1) := by decide +kernel
theorem dX3_hasTicket_6 : decode cX3_hasTicket 6 = .ok (.aload_n 0, 1) := by decide +kernel
theorem dX3_hasTicket_7 : decode cX3_hasTicket 7 = .ok (.getfield 36, 3) := by decide +kernel
theorem dX3_hasTicket_10 : decode cX3_hasTicket 10 = .ok (.if_icmp .gt 7, 3) := by decide +kernel
theorem dX3_hasTicket_13 : decode cX3_hasTicket 13 = .ok (.iconst 1, 1) := by decide +kernel
theorem dX3_hasTicket_14 : decode cX3_hasTicket 14 = .ok (.goto 4, 3) := by decide +kernel
theorem dX3_hasTicket_17 : decode cX3_hasTicket 17 = .ok (.iconst 0, 1) := by decide +kernel
theorem dX3_hasTicket_18 : decode cX3_hasTicket 18 = .ok (.ireturn, 1) := by decide +kernel
theorem dX3_open_0 : decode cX3_open 0 = .ok (.aload_n 0, 1) := by decide +kernel
theorem dX3_open_1 : decode cX3_open 1 = .ok (.getfield 36, 3) := by decide +kernel
theorem dX3_open_4 : decode cX3_open 4 = .ok (.bipush 100, 2) := by decide +kernel
theorem dX3_open_6 : decode cX3_open 6 = .ok (.if_icmp .lt 5, 3) := by decide +kernel
theorem dX3_open_9 : decode cX3_open 9 = .ok (.iconst (-1), 1) := by decide +kernel
theorem dX3_open_10 : decode cX3_open 10 = .ok (.ireturn, 1) := by decide +kernel
theorem dX3_open_11 : decode cX3_open 11 = .ok (.aload_n 0, 1) := by decide +kernel
theorem dX3_open_12 : decode cX3_open 12 = .ok (.dup, 1) := by decide +kernel
theorem dX3_open_13 : decode cX3_open 13 = .ok (.getfield 36, 3) := by decide +kernel
theorem dX3_open_16 : decode cX3_open 16 = .ok (.iconst 1, 1) := by decide +kernel
theorem dX3_open_17 : decode cX3_open 17 = .ok (.iadd, 1) := by decide +kernel
theorem dX3_open_18 : decode cX3_open 18 = .ok (.putfield 36, 3) := by decide +kernel
theorem dX3_open_21 : decode cX3_open 21 = .ok (.aload_n 0, 1) := by decide +kernel
theorem dX3_open_22 : decode cX3_open 22 = .ok (.getfield 9, 3) := by decide +kernel
theorem dX3_open_25 : decode cX3_open 25 = .ok (.aload_n 0, 1) := by decide +kernel
theorem dX3_open_26 : decode cX3_open 26 = .ok (.getfield 36, 3) := by decide +kernel
theorem dX3_open_29 : decode cX3_open 29 = .ok (.iconst 0, 1) := by decide +kernel
theorem dX3_open_30 : decode cX3_open 30 = .ok (.iastore, 1) := by decide +kernel
theorem dX3_open_31 : decode cX3_open 31 = .ok (.aload_n 0, 1) := by decide +kernel
theorem dX3_open_32 : decode cX3_open 32 = .ok (.getfield 15, 3) := by decide +kernel
theorem dX3_open_35 : decode cX3_open 35 = .ok (.aload_n 0, 1) := by decide +kernel
theorem dX3_open_36 : decode cX3_open 36 = .ok (.getfield 36, 3) := by decide +kernel
theorem dX3_open_39 : decode cX3_open 39 = .ok (.iload_n 1, 1) := by decide +kernel
theorem dX3_open_40 : decode cX3_open 40 = .ok (.iastore, 1) := by decide +kernel
theorem dX3_open_41 : decode cX3_open 41 = .ok (.aload_n 0, 1) := by decide +kernel
theorem dX3_open_42 : decode cX3_open 42 = .ok (.getfield 18, 3) := by decide +kernel
theorem dX3_open_45 : decode cX3_open 45 = .ok (.aload_n 0, 1) := by decide +kernel
theorem dX3_open_46 : decode cX3_open 46 = .ok (.getfield 36, 3) := by decide +kernel
theorem dX3_open_49 : decode cX3_open 49 = .ok (.iload_n 2, 1) := by decide +kernel
theorem dX3_open_50 : decode cX3_open 50 = .ok (.iastore, 1) := by decide +kernel
theorem dX3_open_51 : decode cX3_open 51 = .ok (.aload_n 0, 1) := by decide +kernel
theorem dX3_open_52 : decode cX3_open 52 = .ok (.getfield 21, 3) := by decide +kernel
theorem dX3_open_55 : decode cX3_open 55 = .ok (.aload_n 0, 1) := by decide +kernel
theorem dX3_open_56 : decode cX3_open 56 = .ok (.getfield 36, 3) := by decide +kernel
theorem dX3_open_59 : decode cX3_open 59 = .ok (.iconst 0, 1) := by decide +kernel
theorem dX3_open_60 : decode cX3_open 60 = .ok (.iastore, 1) := by decide +kernel
theorem dX3_open_61 : decode cX3_open 61 = .ok (.aload_n 0, 1) := by decide +kernel
theorem dX3_open_62 : decode cX3_open 62 = .ok (.getfield 24, 3) := by decide +kernel
theorem dX3_open_65 : decode cX3_open 65 = .ok (.aload_n 0, 1) := by decide +kernel
theorem dX3_open_66 : decode cX3_open 66 = .ok (.getfield 36, 3) := by decide +kernel
theorem dX3_open_69 : decode cX3_open 69 = .ok (.iconst 0, 1) := by decide +kernel
theorem dX3_open_70 : decode cX3_open 70 = .ok (.iastore, 1) := by decide +kernel
theorem dX3_open_71 : decode cX3_open 71 = .ok (.aload_n 0, 1) := by decide +kernel
theorem dX3_open_72 : decode cX3_open 72 = .ok (.getfield 27, 3) := by decide +kernel
theorem dX3_open_75 : decode cX3_open 75 = .ok (.aload_n 0, 1) := by decide +kernel
theorem dX3_open_76 : decode cX3_open 76 = .ok (.getfield 36, 3) := by decide +kernel
theorem dX3_open_79 : decode cX3_open 79 = .ok (.iconst (-1), 1) := by decide +kernel
theorem dX3_open_80 : decode cX3_open 80 = .ok (.iastore, 1) := by decide +kernel
theorem dX3_open_81 : decode cX3_open 81 = .ok (.aload_n 0, 1) := by decide +kernel
theorem dX3_open_82 : decode cX3_open 82 = .ok (.getfield 30, 3) := by decide +kernel
theorem dX3_open_85 : decode cX3_open 85 = .ok (.aload_n 0, 1) := by decide +kernel
theorem dX3_open_86 : decode cX3_open 86 = .ok (.getfield 36, 3) := by decide +kernel
theorem dX3_open_89 : decode cX3_open 89 = .ok (.iconst (-1), 1) := by decide +kernel
theorem dX3_open_90 : decode cX3_open 90 = .ok (.iastore, 1) := by decide +kernel
theorem dX3_open_91 : decode cX3_open 91 = .ok (.aload_n 0, 1) := by decide +kernel
theorem dX3_open_92 : decode cX3_open 92 = .ok (.getfield 33, 3) := by decide +kernel
theorem dX3_open_95 : decode cX3_open 95 = .ok (.aload_n 0, 1) := by decide +kernel
theorem dX3_open_96 : decode cX3_open 96 = .ok (.getfield 36, 3) := by decide +kernel
theorem dX3_open_99 : decode cX3_open 99 = .ok (.iconst (-1), 1) := by decide +kernel
theorem dX3_open_100 : decode cX3_open 100 = .ok (.iastore, 1) := by decide +kernel
theorem dX3_open_101 : decode cX3_open 101 = .ok (.aload_n 0, 1) := by decide +kernel
theorem dX3_open_102 : decode cX3_open 102 = .ok (.getfield 36, 3) := by decide +kernel
theorem dX3_open_105 : decode cX3_open 105 = .ok (.ireturn, 1) := by decide +kernel
theorem dX3_stateOf_0 : decode cX3_stateOf 0 = .ok (.aload_n 0, 1) := by decide +kernel
theorem dX3_stateOf_1 : decode cX3_stateOf 1 = .ok (.iload_n 1, 1) := by decide +kernel
theorem dX3_stateOf_2 : decode cX3_stateOf 2 = .ok (.invokevirtual 40, 3) := by decide +kernel
theorem dX3_stateOf_5 : decode cX3_stateOf 5 = .ok (.ifCond .eq 12, 3) := by decide +kernel
theorem dX3_stateOf_8 : decode cX3_stateOf 8 = .ok (.aload_n 0, 1) := by decide +kernel
theorem dX3_stateOf_9 : decode cX3_stateOf 9 = .ok (.getfield 9, 3) := by decide +kernel
theorem dX3_stateOf_12 : decode cX3_stateOf 12 = .ok (.iload_n 1, 1) := by decide +kernel
theorem dX3_stateOf_13 : decode cX3_stateOf 13 = .ok (.iaload, 1) := by decide +kernel
theorem dX3_stateOf_14 : decode cX3_stateOf 14 = .ok (.goto 4, 3) := by decide +kernel
theorem dX3_stateOf_17 : decode cX3_stateOf 17 = .ok (.iconst 3, 1) := by decide +kernel
theorem dX3_stateOf_18 : decode cX3_stateOf 18 = .ok (.ireturn, 1) := by decide +kernel
theorem dX3_isOpen_0 : decode cX3_isOpen 0 = .ok (.aload_n 0, 1) := by decide +kernel
theorem dX3_isOpen_1 : decode cX3_isOpen 1 = .ok (.iload_n 1, 1) := by decide +kernel
theorem dX3_isOpen_2 : decode cX3_isOpen 2 = .ok (.invokevirtual 44, 3) := by decide +kernel
theorem dX3_isOpen_5 : decode cX3_isOpen 5 = .ok (.istore_n 2, 1) := by decide +kernel
theorem dX3_isOpen_6 : decode cX3_isOpen 6 = .ok (.iload_n 2, 1) := by decide +kernel
theorem dX3_isOpen_7 : decode cX3_isOpen 7 = .ok (.ifCond .eq 8, 3) := by decide +kernel
theorem dX3_isOpen_10 : decode cX3_isOpen 10 = .ok (.iload_n 2, 1) := by decide +kernel
theorem dX3_isOpen_11 : decode cX3_isOpen 11 = .ok (.iconst 1, 1) := by decide +kernel
theorem dX3_isOpen_12 : decode cX3_isOpen 12 = .ok (.if_icmp .ne 7, 3) := by decide +kernel
theorem dX3_isOpen_15 : decode cX3_isOpen 15 = .ok (.iconst 1, 1) := by decide +kernel
theorem dX3_isOpen_16 : decode cX3_isOpen 16 = .ok (.goto 4, 3) := by decide +kernel
theorem dX3_isOpen_19 : decode cX3_isOpen 19 = .ok (.iconst 0, 1) := by decide +kernel
theorem dX3_isOpen_20 : decode cX3_isOpen 20 = .ok (.ireturn, 1) := by decide +kernel
theorem dX3_sizeOf_0 : decode cX3_sizeOf 0 = .ok (.aload_n 0, 1) := by decide +kernel
theorem dX3_sizeOf_1 : decode cX3_sizeOf 1 = .ok (.iload_n 1, 1) := by decide +kernel
theorem dX3_sizeOf_2 : decode cX3_sizeOf 2 = .ok (.invokevirtual 40, 3) := by decide +kernel
theorem dX3_sizeOf_5 : decode cX3_sizeOf 5 = .ok (.ifCond .eq 12, 3) := by decide +kernel
theorem dX3_sizeOf_8 : decode cX3_sizeOf 8 = .ok (.aload_n 0, 1) := by decide +kernel
theorem dX3_sizeOf_9 : decode cX3_sizeOf 9 = .ok (.getfield 15, 3) := by decide +kernel
theorem dX3_sizeOf_12 : decode cX3_sizeOf 12 = .ok (.iload_n 1, 1) := by decide +kernel
theorem dX3_sizeOf_13 : decode cX3_sizeOf 13 = .ok (.iaload, 1) := by decide +kernel
theorem dX3_sizeOf_14 : decode cX3_sizeOf 14 = .ok (.goto 4, 3) := by decide +kernel
theorem dX3_sizeOf_17 : decode cX3_sizeOf 17 = .ok (.iconst 0, 1) := by decide +kernel
theorem dX3_sizeOf_18 : decode cX3_sizeOf 18 = .ok (.ireturn, 1) := by decide +kernel
theorem dX3_endOf_0 : decode cX3_endOf 0 = .ok (.aload_n 0, 1) := by decide +kernel
theorem dX3_endOf_1 : decode cX3_endOf 1 = .ok (.iload_n 1, 1) := by decide +kernel
theorem dX3_endOf_2 : decode cX3_endOf 2 = .ok (.invokevirtual 40, 3) := by decide +kernel
theorem dX3_endOf_5 : decode cX3_endOf 5 = .ok (.ifCond .eq 12, 3) := by decide +kernel
theorem dX3_endOf_8 : decode cX3_endOf 8 = .ok (.aload_n 0, 1) := by decide +kernel
theorem dX3_endOf_9 : decode cX3_endOf 9 = .ok (.getfield 18, 3) := by decide +kernel
theorem dX3_endOf_12 : decode cX3_endOf 12 = .ok (.iload_n 1, 1) := by decide +kernel
theorem dX3_endOf_13 : decode cX3_endOf 13 = .ok (.iaload, 1) := by decide +kernel
theorem dX3_endOf_14 : decode cX3_endOf 14 = .ok (.goto 4, 3) := by decide +kernel
theorem dX3_endOf_17 : decode cX3_endOf 17 = .ok (.iconst (-1), 1) := by decide +kernel
theorem dX3_endOf_18 : decode cX3_endOf 18 = .ok (.ireturn, 1) := by decide +kernel
theorem dX3_extensionsOf_0 : decode cX3_extensionsOf 0 = .ok (.aload_n 0, 1) := by decide +kernel
theorem dX3_extensionsOf_1 : decode cX3_extensionsOf 1 = .ok (.iload_n 1, 1) := by decide +kernel
theorem dX3_extensionsOf_2 : decode cX3_extensionsOf 2 = .ok (.invokevirtual 40, 3) := by decide +kernel
theorem dX3_extensionsOf_5 : decode cX3_extensionsOf 5 = .ok (.ifCond .eq 12, 3) := by decide +kernel
theorem dX3_extensionsOf_8 : decode cX3_extensionsOf 8 = .ok (.aload_n 0, 1) := by decide +kernel
theorem dX3_extensionsOf_9 : decode cX3_extensionsOf 9 = .ok (.getfield 21, 3) := by decide +kernel
theorem dX3_extensionsOf_12 : decode cX3_extensionsOf 12 = .ok (.iload_n 1, 1) := by decide +kernel
theorem dX3_extensionsOf_13 : decode cX3_extensionsOf 13 = .ok (.iaload, 1) := by decide +kernel
theorem dX3_extensionsOf_14 : decode cX3_extensionsOf 14 = .ok (.goto 4, 3) := by decide +kernel
theorem dX3_extensionsOf_17 : decode cX3_extensionsOf 17 = .ok (.iconst 2, 1) := by decide +kernel
theorem dX3_extensionsOf_18 : decode cX3_extensionsOf 18 = .ok (.ireturn, 1) := by decide +kernel
theorem dX3_paidFor_0 : decode cX3_paidFor 0 = .ok (.aload_n 0, 1) := by decide +kernel
theorem dX3_paidFor_1 : decode cX3_paidFor 1 = .ok (.iload_n 1, 1) := by decide +kernel
theorem dX3_paidFor_2 : decode cX3_paidFor 2 = .ok (.invokevirtual 40, 3) := by decide +kernel
theorem dX3_paidFor_5 : decode cX3_paidFor 5 = .ok (.ifCond .eq 12, 3) := by decide +kernel
theorem dX3_paidFor_8 : decode cX3_paidFor 8 = .ok (.aload_n 0, 1) := by decide +kernel
theorem dX3_paidFor_9 : decode cX3_paidFor 9 = .ok (.getfield 24, 3) := by decide +kernel
theorem dX3_paidFor_12 : decode cX3_paidFor 12 = .ok (.iload_n 1, 1) := by decide +kernel
theorem dX3_paidFor_13 : decode cX3_paidFor 13 = .ok (.iaload, 1) := by decide +kernel
theorem dX3_paidFor_14 : decode cX3_paidFor 14 = .ok (.goto 4, 3) := by decide +kernel
theorem dX3_paidFor_17 : decode cX3_paidFor 17 = .ok (.iconst 0, 1) := by decide +kernel
theorem dX3_paidFor_18 : decode cX3_paidFor 18 = .ok (.ireturn, 1) := by decide +kernel
theorem dX3_rowOf_0 : decode cX3_rowOf 0 = .ok (.aload_n 0, 1) := by decide +kernel
theorem dX3_rowOf_1 : decode cX3_rowOf 1 = .ok (.iload_n 1, 1) := by decide +kernel
theorem dX3_rowOf_2 : decode cX3_rowOf 2 = .ok (.invokevirtual 40, 3) := by decide +kernel
theorem dX3_rowOf_5 : decode cX3_rowOf 5 = .ok (.ifCond .eq 12, 3) := by decide +kernel
theorem dX3_rowOf_8 : decode cX3_rowOf 8 = .ok (.aload_n 0, 1) := by decide +kernel
theorem dX3_rowOf_9 : decode cX3_rowOf 9 = .ok (.getfield 27, 3) := by decide +kernel
theorem dX3_rowOf_12 : decode cX3_rowOf 12 = .ok (.iload_n 1, 1) := by decide +kernel
theorem dX3_rowOf_13 : decode cX3_rowOf 13 = .ok (.iaload, 1) := by decide +kernel
theorem dX3_rowOf_14 : decode cX3_rowOf 14 = .ok (.goto 4, 3) := by decide +kernel
theorem dX3_rowOf_17 : decode cX3_rowOf 17 = .ok (.iconst (-1), 1) := by decide +kernel
theorem dX3_rowOf_18 : decode cX3_rowOf 18 = .ok (.ireturn, 1) := by decide +kernel
theorem dX3_firstOf_0 : decode cX3_firstOf 0 = .ok (.aload_n 0, 1) := by decide +kernel
theorem dX3_firstOf_1 : decode cX3_firstOf 1 = .ok (.iload_n 1, 1) := by decide +kernel
theorem dX3_firstOf_2 : decode cX3_firstOf 2 = .ok (.invokevirtual 40, 3) := by decide +kernel
theorem dX3_firstOf_5 : decode cX3_firstOf 5 = .ok (.ifCond .eq 12, 3) := by decide +kernel
theorem dX3_firstOf_8 : decode cX3_firstOf 8 = .ok (.aload_n 0, 1) := by decide +kernel
theorem dX3_firstOf_9 : decode cX3_firstOf 9 = .ok (.getfield 30, 3) := by decide +kernel
theorem dX3_firstOf_12 : decode cX3_firstOf 12 = .ok (.iload_n 1, 1) := by decide +kernel
theorem dX3_firstOf_13 : decode cX3_firstOf 13 = .ok (.iaload, 1) := by decide +kernel
theorem dX3_firstOf_14 : decode cX3_firstOf 14 = .ok (.goto 4, 3) := by decide +kernel
theorem dX3_firstOf_17 : decode cX3_firstOf 17 = .ok (.iconst (-1), 1) := by decide +kernel
theorem dX3_firstOf_18 : decode cX3_firstOf 18 = .ok (.ireturn, 1) := by decide +kernel
theorem dX3_wishOf_0 : decode cX3_wishOf 0 = .ok (.aload_n 0, 1) := by decide +kernel
theorem dX3_wishOf_1 : decode cX3_wishOf 1 = .ok (.iload_n 1, 1) := by decide +kernel
theorem dX3_wishOf_2 : decode cX3_wishOf 2 = .ok (.invokevirtual 40, 3) := by decide +kernel
theorem dX3_wishOf_5 : decode cX3_wishOf 5 = .ok (.ifCond .eq 12, 3) := by decide +kernel
theorem dX3_wishOf_8 : decode cX3_wishOf 8 = .ok (.aload_n 0, 1) := by decide +kernel
theorem dX3_wishOf_9 : decode cX3_wishOf 9 = .ok (.getfield 33, 3) := by decide +kernel
theorem dX3_wishOf_12 : decode cX3_wishOf 12 = .ok (.iload_n 1, 1) := by decide +kernel
theorem dX3_wishOf_13 : decode cX3_wishOf 13 = .ok (.iaload, 1) := by decide +kernel
theorem dX3_wishOf_14 : decode cX3_wishOf 14 = .ok (.goto 4, 3) := by decide +kernel
theorem dX3_wishOf_17 : decode cX3_wishOf 17 = .ok (.iconst (-1), 1) := by decide +kernel
theorem dX3_wishOf_18 : decode cX3_wishOf 18 = .ok (.ireturn, 1) := by decide +kernel
theorem dX3_prolong_0 : decode cX3_prolong 0 = .ok (.aload_n 0, 1) := by decide +kernel
theorem dX3_prolong_1 : decode cX3_prolong 1 = .ok (.iload_n 1, 1) := by decide +kernel
theorem dX3_prolong_2 : decode cX3_prolong 2 = .ok (.invokevirtual 40, 3) := by decide +kernel
theorem dX3_prolong_5 : decode cX3_prolong 5 = .ok (.ifCond .eq 20, 3) := by decide +kernel
theorem dX3_prolong_8 : decode cX3_prolong 8 = .ok (.aload_n 0, 1) := by decide +kernel
theorem dX3_prolong_9 : decode cX3_prolong 9 = .ok (.getfield 18, 3) := by decide +kernel
theorem dX3_prolong_12 : decode cX3_prolong 12 = .ok (.iload_n 1, 1) := by decide +kernel
theorem dX3_prolong_13 : decode cX3_prolong 13 = .ok (.iload_n 2, 1) := by decide +kernel
theorem dX3_prolong_14 : decode cX3_prolong 14 = .ok (.iastore, 1) := by decide +kernel
theorem dX3_prolong_15 : decode cX3_prolong 15 = .ok (.aload_n 0, 1) := by decide +kernel
theorem dX3_prolong_16 : decode cX3_prolong 16 = .ok (.getfield 21, 3) := by decide +kernel
theorem dX3_prolong_19 : decode cX3_prolong 19 = .ok (.iload_n 1, 1) := by decide +kernel
theorem dX3_prolong_20 : decode cX3_prolong 20 = .ok (.dup2, 1) := by decide +kernel
theorem dX3_prolong_21 : decode cX3_prolong 21 = .ok (.iaload, 1) := by decide +kernel
theorem dX3_prolong_22 : decode cX3_prolong 22 = .ok (.iconst 1, 1) := by decide +kernel
theorem dX3_prolong_23 : decode cX3_prolong 23 = .ok (.iadd, 1) := by decide +kernel
theorem dX3_prolong_24 : decode cX3_prolong 24 = .ok (.iastore, 1) := by decide +kernel
theorem dX3_prolong_25 : decode cX3_prolong 25 = .ok (.return_, 1) := by decide +kernel
theorem dX3_turnIntoBooking_0 : decode cX3_turnIntoBooking 0 = .ok (.aload_n 0, 1) := by decide +kernel
theorem dX3_turnIntoBooking_1 : decode cX3_turnIntoBooking 1 = .ok (.iload_n 1, 1) := by decide +kernel
theorem dX3_turnIntoBooking_2 : decode cX3_turnIntoBooking 2 = .ok (.invokevirtual 40, 3) := by decide +kernel
theorem dX3_turnIntoBooking_5 : decode cX3_turnIntoBooking 5 = .ok (.ifCond .eq 17, 3) := by decide +kernel
theorem dX3_turnIntoBooking_8 : decode cX3_turnIntoBooking 8 = .ok (.aload_n 0, 1) := by decide +kernel
theorem dX3_turnIntoBooking_9 : decode cX3_turnIntoBooking 9 = .ok (.getfield 9, 3) := by decide +kernel
theorem dX3_turnIntoBooking_12 : decode cX3_turnIntoBooking 12 = .ok (.iload_n 1, 1) := by decide +kernel
theorem dX3_turnIntoBooking_13 : decode cX3_turnIntoBooking 13 = .ok (.iconst 1, 1) := by decide +kernel
theorem dX3_turnIntoBooking_14 : decode cX3_turnIntoBooking 14 = .ok (.iastore, 1) := by decide +kernel
theorem dX3_turnIntoBooking_15 : decode cX3_turnIntoBooking 15 = .ok (.aload_n 0, 1) := by decide +kernel
theorem dX3_turnIntoBooking_16 : decode cX3_turnIntoBooking 16 = .ok (.getfield 24, 3) := by decide +kernel
theorem dX3_turnIntoBooking_19 : decode cX3_turnIntoBooking 19 = .ok (.iload_n 1, 1) := by decide +kernel
theorem dX3_turnIntoBooking_20 : decode cX3_turnIntoBooking 20 = .ok (.iload_n 2, 1) := by decide +kernel
theorem dX3_turnIntoBooking_21 : decode cX3_turnIntoBooking 21 = .ok (.iastore, 1) := by decide +kernel
theorem dX3_turnIntoBooking_22 : decode cX3_turnIntoBooking 22 = .ok (.return_, 1) := by decide +kernel
theorem dX3_close_0 : decode cX3_close 0 = .ok (.aload_n 0, 1) := by decide +kernel
theorem dX3_close_1 : decode cX3_close 1 = .ok (.iload_n 1, 1) := by decide +kernel
theorem dX3_close_2 : decode cX3_close 2 = .ok (.invokevirtual 40, 3) := by decide +kernel
theorem dX3_close_5 : decode cX3_close 5 = .ok (.ifCond .eq 17, 3) := by decide +kernel
theorem dX3_close_8 : decode cX3_close 8 = .ok (.aload_n 0, 1) := by decide +kernel
theorem dX3_close_9 : decode cX3_close 9 = .ok (.getfield 9, 3) := by decide +kernel
theorem dX3_close_12 : decode cX3_close 12 = .ok (.iload_n 1, 1) := by decide +kernel
theorem dX3_close_13 : decode cX3_close 13 = .ok (.iload_n 2, 1) := by decide +kernel
theorem dX3_close_14 : decode cX3_close 14 = .ok (.iastore, 1) := by decide +kernel
theorem dX3_close_15 : decode cX3_close 15 = .ok (.aload_n 0, 1) := by decide +kernel
theorem dX3_close_16 : decode cX3_close 16 = .ok (.getfield 33, 3) := by decide +kernel
theorem dX3_close_19 : decode cX3_close 19 = .ok (.iload_n 1, 1) := by decide +kernel
theorem dX3_close_20 : decode cX3_close 20 = .ok (.iconst (-1), 1) := by decide +kernel
theorem dX3_close_21 : decode cX3_close 21 = .ok (.iastore, 1) := by decide +kernel
theorem dX3_close_22 : decode cX3_close 22 = .ok (.return_, 1) := by decide +kernel
theorem dX3_putAt_0 : decode cX3_putAt 0 = .ok (.aload_n 0, 1) := by decide +kernel
theorem dX3_putAt_1 : decode cX3_putAt 1 = .ok (.iload_n 1, 1) := by decide +kernel
theorem dX3_putAt_2 : decode cX3_putAt 2 = .ok (.invokevirtual 40, 3) := by decide +kernel
theorem dX3_putAt_5 : decode cX3_putAt 5 = .ok (.ifCond .eq 17, 3) := by decide +kernel
theorem dX3_putAt_8 : decode cX3_putAt 8 = .ok (.aload_n 0, 1) := by decide +kernel
theorem dX3_putAt_9 : decode cX3_putAt 9 = .ok (.getfield 27, 3) := by decide +kernel
theorem dX3_putAt_12 : decode cX3_putAt 12 = .ok (.iload_n 1, 1) := by decide +kernel
theorem dX3_putAt_13 : decode cX3_putAt 13 = .ok (.iload_n 2, 1) := by decide +kernel
theorem dX3_putAt_14 : decode cX3_putAt 14 = .ok (.iastore, 1) := by decide +kernel
theorem dX3_putAt_15 : decode cX3_putAt 15 = .ok (.aload_n 0, 1) := by decide +kernel
theorem dX3_putAt_16 : decode cX3_putAt 16 = .ok (.getfield 30, 3) := by decide +kernel
theorem dX3_putAt_19 : decode cX3_putAt 19 = .ok (.iload_n 1, 1) := by decide +kernel
theorem dX3_putAt_20 : decode cX3_putAt 20 = .ok (.iload_n 3, 1) := by decide +kernel
theorem dX3_putAt_21 : decode cX3_putAt 21 = .ok (.iastore, 1) := by decide +kernel
theorem dX3_putAt_22 : decode cX3_putAt 22 = .ok (.return_, 1) := by decide +kernel
theorem dX3_setWish_0 : decode cX3_setWish 0 = .ok (.aload_n 0, 1) := by decide +kernel
theorem dX3_setWish_1 : decode cX3_setWish 1 = .ok (.iload_n 1, 1) := by decide +kernel
theorem dX3_setWish_2 : decode cX3_setWish 2 = .ok (.invokevirtual 40, 3) := by decide +kernel
theorem dX3_setWish_5 : decode cX3_setWish 5 = .ok (.ifCond .eq 10, 3) := by decide +kernel
theorem dX3_setWish_8 : decode cX3_setWish 8 = .ok (.aload_n 0, 1) := by decide +kernel
theorem dX3_setWish_9 : decode cX3_setWish 9 = .ok (.getfield 33, 3) := by decide +kernel
theorem dX3_setWish_12 : decode cX3_setWish 12 = .ok (.iload_n 1, 1) := by decide +kernel
theorem dX3_setWish_13 : decode cX3_setWish 13 = .ok (.iload_n 2, 1) := by decide +kernel
theorem dX3_setWish_14 : decode cX3_setWish 14 = .ok (.iastore, 1) := by decide +kernel
theorem dX3_setWish_15 : decode cX3_setWish 15 = .ok (.return_, 1) := by decide +kernel
theorem dX3_earliestEnd_0 : decode cX3_earliestEnd 0 = .ok (.iconst (-1), 1) := by decide +kernel
theorem dX3_earliestEnd_1 : decode cX3_earliestEnd 1 = .ok (.istore_n 1, 1) := by decide +kernel
theorem dX3_earliestEnd_2 : decode cX3_earliestEnd 2 = .ok (.iconst 1, 1) := by decide +kernel
theorem dX3_earliestEnd_3 : decode cX3_earliestEnd 3 = .ok (.istore_n 2, 1) := by decide +kernel
theorem dX3_earliestEnd_4 : decode cX3_earliestEnd 4 = .ok (.iload_n 2, 1) := by decide +kernel
theorem dX3_earliestEnd_5 : decode cX3_earliestEnd 5 = .ok (.aload_n 0, 1) := by decide +kernel
theorem dX3_earliestEnd_6 : decode cX3_earliestEnd 6 = .ok (.getfield 36, 3) := by decide +kernel
theorem dX3_earliestEnd_9 : decode cX3_earliestEnd 9 = .ok (.if_icmp .gt 40, 3) := by decide +kernel
theorem dX3_earliestEnd_12 : decode cX3_earliestEnd 12 = .ok (.aload_n 0, 1) := by decide +kernel
theorem dX3_earliestEnd_13 : decode cX3_earliestEnd 13 = .ok (.getfield 9, 3) := by decide +kernel
theorem dX3_earliestEnd_16 : decode cX3_earliestEnd 16 = .ok (.iload_n 2, 1) := by decide +kernel
theorem dX3_earliestEnd_17 : decode cX3_earliestEnd 17 = .ok (.iaload, 1) := by decide +kernel
theorem dX3_earliestEnd_18 : decode cX3_earliestEnd 18 = .ok (.ifCond .ne 25, 3) := by decide +kernel
theorem dX3_earliestEnd_21 : decode cX3_earliestEnd 21 = .ok (.iload_n 1, 1) := by decide +kernel
theorem dX3_earliestEnd_22 : decode cX3_earliestEnd 22 = .ok (.iconst (-1), 1) := by decide +kernel
theorem dX3_earliestEnd_23 : decode cX3_earliestEnd 23 = .ok (.if_icmp .eq 13, 3) := by decide +kernel
theorem dX3_earliestEnd_26 : decode cX3_earliestEnd 26 = .ok (.aload_n 0, 1) := by decide +kernel
theorem dX3_earliestEnd_27 : decode cX3_earliestEnd 27 = .ok (.getfield 18, 3) := by decide +kernel
theorem dX3_earliestEnd_30 : decode cX3_earliestEnd 30 = .ok (.iload_n 2, 1) := by decide +kernel
theorem dX3_earliestEnd_31 : decode cX3_earliestEnd 31 = .ok (.iaload, 1) := by decide +kernel
theorem dX3_earliestEnd_32 : decode cX3_earliestEnd 32 = .ok (.iload_n 1, 1) := by decide +kernel
theorem dX3_earliestEnd_33 : decode cX3_earliestEnd 33 = .ok (.if_icmp .ge 10, 3) := by decide +kernel
theorem dX3_earliestEnd_36 : decode cX3_earliestEnd 36 = .ok (.aload_n 0, 1) := by decide +kernel
theorem dX3_earliestEnd_37 : decode cX3_earliestEnd 37 = .ok (.getfield 18, 3) := by decide +kernel
theorem dX3_earliestEnd_40 : decode cX3_earliestEnd 40 = .ok (.iload_n 2, 1) := by decide +kernel
theorem dX3_earliestEnd_41 : decode cX3_earliestEnd 41 = .ok (.iaload, 1) := by decide +kernel
theorem dX3_earliestEnd_42 : decode cX3_earliestEnd 42 = .ok (.istore_n 1, 1) := by decide +kernel
theorem dX3_earliestEnd_43 : decode cX3_earliestEnd 43 = .ok (.iinc 2 1, 3) := by decide +kernel
theorem dX3_earliestEnd_46 : decode cX3_earliestEnd 46 = .ok (.goto (-42), 3) := by decide +kernel
theorem dX3_earliestEnd_49 : decode cX3_earliestEnd 49 = .ok (.iload_n 1, 1) := by decide +kernel
theorem dX3_earliestEnd_50 : decode cX3_earliestEnd 50 = .ok (.ireturn, 1) := by decide +kernel
theorem dJ9_abs_0f7a4_0 : decode cJ9_abs_0f7a4 0 = .ok (.iload_n 0, 1) := by decide +kernel
theorem dJ9_abs_0f7a4_1 : decode cJ9_abs_0f7a4 1 = .ok (.ifCond .ge 8, 3) := by decide +kernel
theorem dJ9_abs_0f7a4_4 : decode cJ9_abs_0f7a4 4 = .ok (.iload_n 0, 1) := by decide +kernel
theorem dJ9_abs_0f7a4_5 : decode cJ9_abs_0f7a4 5 = .ok (.ineg, 1) := by decide +kernel
theorem dJ9_abs_0f7a4_6 : decode cJ9_abs_0f7a4 6 = .ok (.goto 4, 3) := by decide +kernel
theorem dJ9_abs_0f7a4_9 : decode cJ9_abs_0f7a4 9 = .ok (.iload_n 0, 1) := by decide +kernel
theorem dJ9_abs_0f7a4_10 : decode cJ9_abs_0f7a4 10 = .ok (.ireturn, 1) := by decide +kernel
theorem dJ9_max_7cf53_0 : decode cJ9_max_7cf53 0 = .ok (.iload_n 0, 1) := by decide +kernel
theorem dJ9_max_7cf53_1 : decode cJ9_max_7cf53 1 = .ok (.iload_n 1, 1) := by decide +kernel
theorem dJ9_max_7cf53_2 : decode cJ9_max_7cf53 2 = .ok (.if_icmp .lt 7, 3) := by decide +kernel
theorem dJ9_max_7cf53_5 : decode cJ9_max_7cf53 5 = .ok (.iload_n 0, 1) := by decide +kernel
theorem dJ9_max_7cf53_6 : decode cJ9_max_7cf53 6 = .ok (.goto 4, 3) := by decide +kernel
theorem dJ9_max_7cf53_9 : decode cJ9_max_7cf53 9 = .ok (.iload_n 1, 1) := by decide +kernel
theorem dJ9_max_7cf53_10 : decode cJ9_max_7cf53 10 = .ok (.ireturn, 1) := by decide +kernel
theorem dJ9_min_7cf53_0 : decode cJ9_min_7cf53 0 = .ok (.iload_n 0, 1) := by decide +kernel
theorem dJ9_min_7cf53_1 : decode cJ9_min_7cf53 1 = .ok (.iload_n 1, 1) := by decide +kernel
theorem dJ9_min_7cf53_2 : decode cJ9_min_7cf53 2 = .ok (.if_icmp .gt 7, 3) := by decide +kernel
theorem dJ9_min_7cf53_5 : decode cJ9_min_7cf53 5 = .ok (.iload_n 0, 1) := by decide +kernel
theorem dJ9_min_7cf53_6 : decode cJ9_min_7cf53 6 = .ok (.goto 4, 3) := by decide +kernel
theorem dJ9_min_7cf53_9 : decode cJ9_min_7cf53 9 = .ok (.iload_n 1, 1) := by decide +kernel
theorem dJ9_min_7cf53_10 : decode cJ9_min_7cf53 10 = .ok (.ireturn, 1) := by decide +kernel
theorem dX0_init_0 : decode cX0_init 0 = .ok (.aload_n 0, 1) := by decide +kernel
theorem dX0_init_1 : decode cX0_init 1 = .ok (.invokespecial 3, 3) := by decide +kernel
theorem dX0_init_4 : decode cX0_init 4 = .ok (.aload_n 0, 1) := by decide +kernel
theorem dX0_init_5 : decode cX0_init 5 = .ok (.aload_n 1, 1) := by decide +kernel
theorem dX0_init_6 : decode cX0_init 6 = .ok (.putfield 9, 3) := by decide +kernel
theorem dX0_init_9 : decode cX0_init 9 = .ok (.aload_n 0, 1) := by decide +kernel
theorem dX0_init_10 : decode cX0_init 10 = .ok (.aload_n 2, 1) := by decide +kernel
theorem dX0_init_11 : decode cX0_init 11 = .ok (.putfield 15, 3) := by decide +kernel
theorem dX0_init_14 : decode cX0_init 14 = .ok (.aload_n 0, 1) := by decide +kernel
theorem dX0_init_15 : decode cX0_init 15 = .ok (.bipush 12, 2) := by decide +kernel
theorem dX0_init_17 : decode cX0_init 17 = .ok (.newarray .int, 2) := by decide +kernel
theorem dX0_init_19 : decode cX0_init 19 = .ok (.putfield 19, 3) := by decide +kernel
theorem dX0_init_22 : decode cX0_init 22 = .ok (.aload_n 0, 1) := by decide +kernel
theorem dX0_init_23 : decode cX0_init 23 = .ok (.bipush 13, 2) := by decide +kernel
theorem dX0_init_25 : decode cX0_init 25 = .ok (.newarray .int, 2) := by decide +kernel
theorem dX0_init_27 : decode cX0_init 27 = .ok (.putfield 23, 3) := by decide +kernel
theorem dX0_init_30 : decode cX0_init 30 = .ok (.aload_n 0, 1) := by decide +kernel
theorem dX0_init_31 : decode cX0_init 31 = .ok (.iconst 0, 1) := by decide +kernel
theorem dX0_init_32 : decode cX0_init 32 = .ok (.putfield 26, 3) := by decide +kernel
theorem dX0_init_35 : decode cX0_init 35 = .ok (.aload_n 0, 1) := by decide +kernel
theorem dX0_init_36 : decode cX0_init 36 = .ok (.iconst 0, 1) := by decide +kernel
theorem dX0_init_37 : decode cX0_init 37 = .ok (.putfield 30, 3) := by decide +kernel
theorem dX0_init_40 : decode cX0_init 40 = .ok (.return_, 1) := by decide +kernel
theorem dX0_find_0 : decode cX0_find 0 = .ok (.aload_n 0, 1) := by decide +kernel
theorem dX0_find_1 : decode cX0_find 1 = .ok (.iconst 0, 1) := by decide +kernel
theorem dX0_find_2 : decode cX0_find 2 = .ok (.putfield 26, 3) := by decide +kernel
theorem dX0_find_5 : decode cX0_find 5 = .ok (.aload_n 0, 1) := by decide +kernel
theorem dX0_find_6 : decode cX0_find 6 = .ok (.aload_n 0, 1) := by decide +kernel
theorem dX0_find_7 : decode cX0_find 7 = .ok (.getfield 15, 3) := by decide +kernel
theorem dX0_find_10 : decode cX0_find 10 = .ok (.iload_n 1, 1) := by decide +kernel
theorem dX0_find_11 : decode cX0_find 11 = .ok (.invokevirtual 33, 3) := by decide +kernel
theorem dX0_find_14 : decode cX0_find 14 = .ok (.putfield 30, 3) := by decide +kernel
theorem dX0_find_17 : decode cX0_find 17 = .ok (.aload_n 0, 1) := by decide +kernel
theorem dX0_find_18 : decode cX0_find 18 = .ok (.aload_n 0, 1) := by decide +kernel
theorem dX0_find_19 : decode cX0_find 19 = .ok (.getfield 15, 3) := by decide +kernel
theorem dX0_find_22 : decode cX0_find 22 = .ok (.iload_n 1, 1) := by decide +kernel
theorem dX0_find_23 : decode cX0_find 23 = .ok (.invokevirtual 39, 3) := by decide +kernel
theorem dX0_find_26 : decode cX0_find 26 = .ok (.invokevirtual 42, 3) := by decide +kernel
theorem dX0_find_29 : decode cX0_find 29 = .ok (.iconst 0, 1) := by decide +kernel
theorem dX0_find_30 : decode cX0_find 30 = .ok (.istore_n 2, 1) := by decide +kernel
theorem dX0_find_31 : decode cX0_find 31 = .ok (.iload_n 2, 1) := by decide +kernel
theorem dX0_find_32 : decode cX0_find 32 = .ok (.aload_n 0, 1) := by decide +kernel
theorem dX0_find_33 : decode cX0_find 33 = .ok (.getfield 9, 3) := by decide +kernel
theorem dX0_find_36 : decode cX0_find 36 = .ok (.invokevirtual 46, 3) := by decide +kernel
theorem dX0_find_39 : decode cX0_find 39 = .ok (.if_icmp .ge 13, 3) := by decide +kernel
theorem dX0_find_42 : decode cX0_find 42 = .ok (.aload_n 0, 1) := by decide +kernel
theorem dX0_find_43 : decode cX0_find 43 = .ok (.invokevirtual 52, 3) := by decide +kernel
theorem dX0_find_46 : decode cX0_find 46 = .ok (.iinc 2 1, 3) := by decide +kernel
theorem dX0_find_49 : decode cX0_find 49 = .ok (.goto (-18), 3) := by decide +kernel
theorem dX0_find_52 : decode cX0_find 52 = .ok (.aload_n 0, 1) := by decide +kernel
theorem dX0_find_53 : decode cX0_find 53 = .ok (.aload_n 0, 1) := by decide +kernel
theorem dX0_find_54 : decode cX0_find 54 = .ok (.getfield 15, 3) := by decide +kernel
theorem dX0_find_57 : decode cX0_find 57 = .ok (.iload_n 1, 1) := by decide +kernel
theorem dX0_find_58 : decode cX0_find 58 = .ok (.invokevirtual 55, 3) := by decide +kernel
theorem dX0_find_61 : decode cX0_find 61 = .ok (.invokevirtual 58, 3) := by decide +kernel
theorem dX0_find_64 : decode cX0_find 64 = .ok (.istore_n 2, 1) := by decide +kernel
theorem dX0_find_65 : decode cX0_find 65 = .ok (.iload_n 2, 1) := by decide +kernel
theorem dX0_find_66 : decode cX0_find 66 = .ok (.bipush 13, 2) := by decide +kernel
theorem dX0_find_68 : decode cX0_find 68 = .ok (.if_icmp .lt 5, 3) := by decide +kernel
theorem dX0_find_71 : decode cX0_find 71 = .ok (.iconst 0, 1) := by decide +kernel
theorem dX0_find_72 : decode cX0_find 72 = .ok (.ireturn, 1) := by decide +kernel
theorem dX0_find_73 : decode cX0_find 73 = .ok (.aload_n 0, 1) := by decide +kernel
theorem dX0_find_74 : decode cX0_find 74 = .ok (.iload_n 1, 1) := by decide +kernel
theorem dX0_find_75 : decode cX0_find 75 = .ok (.iload_n 2, 1) := by decide +kernel
theorem dX0_find_76 : decode cX0_find 76 = .ok (.invokevirtual 61, 3) := by decide +kernel
theorem dX0_find_79 : decode cX0_find 79 = .ok (.iconst 1, 1) := by decide +kernel
theorem dX0_find_80 : decode cX0_find 80 = .ok (.ireturn, 1) := by decide +kernel
theorem dX0_stepsOf_0 : decode cX0_stepsOf 0 = .ok (.aload_n 0, 1) := by decide +kernel
theorem dX0_stepsOf_1 : decode cX0_stepsOf 1 = .ok (.getfield 9, 3) := by decide +kernel
theorem dX0_stepsOf_4 : decode cX0_stepsOf 4 = .ok (.iload_n 1, 1) := by decide +kernel
theorem dX0_stepsOf_5 : decode cX0_stepsOf 5 = .ok (.invokevirtual 65, 3) := by decide +kernel
theorem dX0_stepsOf_8 : decode cX0_stepsOf 8 = .ok (.ifCond .eq 12, 3) := by decide +kernel
theorem dX0_stepsOf_11 : decode cX0_stepsOf 11 = .ok (.aload_n 0, 1) := by decide +kernel
theorem dX0_stepsOf_12 : decode cX0_stepsOf 12 = .ok (.getfield 19, 3) := by decide +kernel
theorem dX0_stepsOf_15 : decode cX0_stepsOf 15 = .ok (.iload_n 1, 1) := by decide +kernel
theorem dX0_stepsOf_16 : decode cX0_stepsOf 16 = .ok (.iaload, 1) := by decide +kernel
theorem dX0_stepsOf_17 : decode cX0_stepsOf 17 = .ok (.goto 5, 3) := by decide +kernel
theorem dX0_stepsOf_20 : decode cX0_stepsOf 20 = .ok (.bipush 13, 2) := by decide +kernel
theorem dX0_stepsOf_22 : decode cX0_stepsOf 22 = .ok (.ireturn, 1) := by decide +kernel
theorem dX0_markEnds_0 : decode cX0_markEnds 0 = .ok (.iconst 0, 1) := by decide +kernel
theorem dX0_markEnds_1 : decode cX0_markEnds 1 = .ok (.istore_n 2, 1) := by decide +kernel
theorem dX0_markEnds_2 : decode cX0_markEnds 2 = .ok (.iload_n 2, 1) := by decide +kernel
theorem dX0_markEnds_3 : decode cX0_markEnds 3 = .ok (.aload_n 0, 1) := by decide +kernel
theorem dX0_markEnds_4 : decode cX0_markEnds 4 = .ok (.getfield 9, 3) := by decide +kernel
theorem dX0_markEnds_7 : decode cX0_markEnds 7 = .ok (.invokevirtual 46, 3) := by decide +kernel
theorem dX0_markEnds_10 : decode cX0_markEnds 10 = .ok (.if_icmp .ge 53, 3) := by decide +kernel
theorem dX0_markEnds_13 : decode cX0_markEnds 13 = .ok (.iload_n 2, 1) := by decide +kernel
theorem dX0_markEnds_14 : decode cX0_markEnds 14 = .ok (.iload_n 1, 1) := by decide +kernel
theorem dX0_markEnds_15 : decode cX0_markEnds 15 = .ok (.if_icmp .eq 20, 3) := by decide +kernel
theorem dX0_markEnds_18 : decode cX0_markEnds 18 = .ok (.aload_n 0, 1) := by decide +kernel
theorem dX0_markEnds_19 : decode cX0_markEnds 19 = .ok (.getfield 9, 3) := by decide +kernel
theorem dX0_markEnds_22 : decode cX0_markEnds 22 = .ok (.iload_n 2, 1) := by decide +kernel
theorem dX0_markEnds_23 : decode cX0_markEnds 23 = .ok (.aload_n 0, 1) := by decide +kernel
theorem dX0_markEnds_24 : decode cX0_markEnds 24 = .ok (.getfield 30, 3) := by decide +kernel
theorem dX0_markEnds_27 : decode cX0_markEnds 27 = .ok (.iconst 1, 1) := by decide +kernel
theorem dX0_markEnds_28 : decode cX0_markEnds 28 = .ok (.invokevirtual 69, 3) := by decide +kernel
theorem dX0_markEnds_31 : decode cX0_markEnds 31 = .ok (.iconst (-1), 1) := by decide +kernel
theorem dX0_markEnds_32 : decode cX0_markEnds 32 = .ok (.if_icmp .eq 7, 3) := by decide +kernel
theorem dX0_markEnds_35 : decode cX0_markEnds 35 = .ok (.iconst 1, 1) := by decide +kernel
theorem dX0_markEnds_36 : decode cX0_markEnds 36 = .ok (.goto 4, 3) := by decide +kernel
theorem dX0_markEnds_39 : decode cX0_markEnds 39 = .ok (.iconst 0, 1) := by decide +kernel
theorem dX0_markEnds_40 : decode cX0_markEnds 40 = .ok (.istore_n 3, 1) := by decide +kernel
theorem dX0_markEnds_41 : decode cX0_markEnds 41 = .ok (.aload_n 0, 1) := by decide +kernel
theorem dX0_markEnds_42 : decode cX0_markEnds 42 = .ok (.getfield 19, 3) := by decide +kernel
theorem dX0_markEnds_45 : decode cX0_markEnds 45 = .ok (.iload_n 2, 1) := by decide +kernel
theorem dX0_markEnds_46 : decode cX0_markEnds 46 = .ok (.iload_n 3, 1) := by decide +kernel
theorem dX0_markEnds_47 : decode cX0_markEnds 47 = .ok (.ifCond .eq 7, 3) := by decide +kernel
theorem dX0_markEnds_50 : decode cX0_markEnds 50 = .ok (.iconst 0, 1) := by decide +kernel
theorem dX0_markEnds_51 : decode cX0_markEnds 51 = .ok (.goto 5, 3) := by decide +kernel
theorem dX0_markEnds_54 : decode cX0_markEnds 54 = .ok (.bipush 13, 2) := by decide +kernel
theorem dX0_markEnds_56 : decode cX0_markEnds 56 = .ok (.iastore, 1) := by decide +kernel
theorem dX0_markEnds_57 : decode cX0_markEnds 57 = .ok (.iinc 2 1, 3) := by decide +kernel
theorem dX0_markEnds_60 : decode cX0_markEnds 60 = .ok (.goto (-58), 3) := by decide +kernel
theorem dX0_markEnds_63 : decode cX0_markEnds 63 = .ok (.return_, 1) := by decide +kernel
theorem dX0_shortenSteps_0 : decode cX0_shortenSteps 0 = .ok (.iconst 1, 1) := by decide +kernel
theorem dX0_shortenSteps_1 : decode cX0_shortenSteps 1 = .ok (.istore_n 1, 1) := by decide +kernel
theorem dX0_shortenSteps_2 : decode cX0_shortenSteps 2 = .ok (.iload_n 1, 1) := by decide +kernel
theorem dX0_shortenSteps_3 : decode cX0_shortenSteps 3 = .ok (.aload_n 0, 1) := by decide +kernel
theorem dX0_shortenSteps_4 : decode cX0_shortenSteps 4 = .ok (.getfield 15, 3) := by decide +kernel
theorem dX0_shortenSteps_7 : decode cX0_shortenSteps 7 = .ok (.invokevirtual 73, 3) := by decide +kernel
theorem dX0_shortenSteps_10 : decode cX0_shortenSteps 10 = .ok (.if_icmp .gt 68, 3) := by decide +kernel
theorem dX0_shortenSteps_13 : decode cX0_shortenSteps 13 = .ok (.aload_n 0, 1) := by decide +kernel
theorem dX0_shortenSteps_14 : decode cX0_shortenSteps 14 = .ok (.getfield 15, 3) := by decide +kernel
theorem dX0_shortenSteps_17 : decode cX0_shortenSteps 17 = .ok (.iload_n 1, 1) := by decide +kernel
theorem dX0_shortenSteps_18 : decode cX0_shortenSteps 18 = .ok (.invokevirtual 39, 3) := by decide +kernel
theorem dX0_shortenSteps_21 : decode cX0_shortenSteps 21 = .ok (.istore_n 2, 1) := by decide +kernel
theorem dX0_shortenSteps_22 : decode cX0_shortenSteps 22 = .ok (.aload_n 0, 1) := by decide +kernel
theorem dX0_shortenSteps_23 : decode cX0_shortenSteps 23 = .ok (.iload_n 1, 1) := by decide +kernel
theorem dX0_shortenSteps_24 : decode cX0_shortenSteps 24 = .ok (.invokevirtual 76, 3) := by decide +kernel
theorem dX0_shortenSteps_27 : decode cX0_shortenSteps 27 = .ok (.ifCond .eq 45, 3) := by decide +kernel
theorem dX0_shortenSteps_30 : decode cX0_shortenSteps 30 = .ok (.aload_n 0, 1) := by decide +kernel
theorem dX0_shortenSteps_31 : decode cX0_shortenSteps 31 = .ok (.getfield 9, 3) := by decide +kernel
theorem dX0_shortenSteps_34 : decode cX0_shortenSteps 34 = .ok (.iload_n 2, 1) := by decide +kernel
theorem dX0_shortenSteps_35 : decode cX0_shortenSteps 35 = .ok (.invokevirtual 65, 3) := by decide +kernel
theorem dX0_shortenSteps_38 : decode cX0_shortenSteps 38 = .ok (.ifCond .eq 34, 3) := by decide +kernel
theorem dX0_shortenSteps_41 : decode cX0_shortenSteps 41 = .ok (.aload_n 0, 1) := by decide +kernel
theorem dX0_shortenSteps_42 : decode cX0_shortenSteps 42 = .ok (.aload_n 0, 1) := by decide +kernel
theorem dX0_shortenSteps_43 : decode cX0_shortenSteps 43 = .ok (.getfield 15, 3) := by decide +kernel
theorem dX0_shortenSteps_46 : decode cX0_shortenSteps 46 = .ok (.iload_n 1, 1) := by decide +kernel
theorem dX0_shortenSteps_47 : decode cX0_shortenSteps 47 = .ok (.invokevirtual 55, 3) := by decide +kernel
theorem dX0_shortenSteps_50 : decode cX0_shortenSteps 50 = .ok (.invokevirtual 58, 3) := by decide +kernel
theorem dX0_shortenSteps_53 : decode cX0_shortenSteps 53 = .ok (.iconst 1, 1) := by decide +kernel
theorem dX0_shortenSteps_54 : decode cX0_shortenSteps 54 = .ok (.iadd, 1) := by decide +kernel
theorem dX0_shortenSteps_55 : decode cX0_shortenSteps 55 = .ok (.istore_n 3, 1) := by decide +kernel
theorem dX0_shortenSteps_56 : decode cX0_shortenSteps 56 = .ok (.aload_n 0, 1) := by decide +kernel
theorem dX0_shortenSteps_57 : decode cX0_shortenSteps 57 = .ok (.getfield 19, 3) := by decide +kernel
theorem dX0_shortenSteps_60 : decode cX0_shortenSteps 60 = .ok (.iload_n 2, 1) := by decide +kernel
theorem dX0_shortenSteps_61 : decode cX0_shortenSteps 61 = .ok (.aload_n 0, 1) := by decide +kernel
theorem dX0_shortenSteps_62 : decode cX0_shortenSteps 62 = .ok (.getfield 19, 3) := by decide +kernel
theorem dX0_shortenSteps_65 : decode cX0_shortenSteps 65 = .ok (.iload_n 2, 1) := by decide +kernel
theorem dX0_shortenSteps_66 : decode cX0_shortenSteps 66 = .ok (.iaload, 1) := by decide +kernel
theorem dX0_shortenSteps_67 : decode cX0_shortenSteps 67 = .ok (.iload_n 3, 1) := by decide +kernel
theorem dX0_shortenSteps_68 : decode cX0_shortenSteps 68 = .ok (.invokestatic 79, 3) := by decide +kernel
theorem dX0_shortenSteps_71 : decode cX0_shortenSteps 71 = .ok (.iastore, 1) := by decide +kernel
theorem dX0_shortenSteps_72 : decode cX0_shortenSteps 72 = .ok (.iinc 1 1, 3) := by decide +kernel
theorem dX0_shortenSteps_75 : decode cX0_shortenSteps 75 = .ok (.goto (-73), 3) := by decide +kernel
theorem dX0_shortenSteps_78 : decode cX0_shortenSteps 78 = .ok (.return_, 1) := by decide +kernel
theorem dX0_takesPart_0 : decode cX0_takesPart 0 = .ok (.aload_n 0, 1) := by decide +kernel
theorem dX0_takesPart_1 : decode cX0_takesPart 1 = .ok (.getfield 15, 3) := by decide +kernel
theorem dX0_takesPart_4 : decode cX0_takesPart 4 = .ok (.iload_n 1, 1) := by decide +kernel
theorem dX0_takesPart_5 : decode cX0_takesPart 5 = .ok (.invokevirtual 55, 3) := by decide +kernel
theorem dX0_takesPart_8 : decode cX0_takesPart 8 = .ok (.iconst (-1), 1) := by decide +kernel
theorem dX0_takesPart_9 : decode cX0_takesPart 9 = .ok (.if_icmp .eq 22, 3) := by decide +kernel
theorem dX0_takesPart_12 : decode cX0_takesPart 12 = .ok (.aload_n 0, 1) := by decide +kernel
theorem dX0_takesPart_13 : decode cX0_takesPart 13 = .ok (.getfield 15, 3) := by decide +kernel
theorem dX0_takesPart_16 : decode cX0_takesPart 16 = .ok (.iload_n 1, 1) := by decide +kernel
theorem dX0_takesPart_17 : decode cX0_takesPart 17 = .ok (.invokevirtual 33, 3) := by decide +kernel
theorem dX0_takesPart_20 : decode cX0_takesPart 20 = .ok (.aload_n 0, 1) := by decide +kernel
theorem dX0_takesPart_21 : decode cX0_takesPart 21 = .ok (.getfield 30, 3) := by decide +kernel
theorem dX0_takesPart_24 : decode cX0_takesPart 24 = .ok (.if_icmp .ne 7, 3) := by decide +kernel
theorem dX0_takesPart_27 : decode cX0_takesPart 27 = .ok (.iconst 1, 1) := by decide +kernel
theorem dX0_takesPart_28 : decode cX0_takesPart 28 = .ok (.goto 4, 3) := by decide +kernel
theorem dX0_takesPart_31 : decode cX0_takesPart 31 = .ok (.iconst 0, 1) := by decide +kernel
theorem dX0_takesPart_32 : decode cX0_takesPart 32 = .ok (.ireturn, 1) := by decide +kernel
theorem dX0_collect_0 : decode cX0_collect 0 = .ok (.iload_n 1, 1) := by decide +kernel
theorem dX0_collect_1 : decode cX0_collect 1 = .ok (.istore_n 3, 1) := by decide +kernel
theorem dX0_collect_2 : decode cX0_collect 2 = .ok (.aload_n 0, 1) := by decide +kernel
theorem dX0_collect_3 : decode cX0_collect 3 = .ok (.getfield 23, 3) := by decide +kernel
theorem dX0_collect_6 : decode cX0_collect 6 = .ok (.iconst 0, 1) := by decide +kernel
theorem dX0_collect_7 : decode cX0_collect 7 = .ok (.iload_n 3, 1) := by decide +kernel
theorem dX0_collect_8 : decode cX0_collect 8 = .ok (.iastore, 1) := by decide +kernel
theorem dX0_collect_9 : decode cX0_collect 9 = .ok (.aload_n 0, 1) := by decide +kernel
theorem dX0_collect_10 : decode cX0_collect 10 = .ok (.iconst 1, 1) := by decide +kernel
theorem dX0_collect_11 : decode cX0_collect 11 = .ok (.putfield 26, 3) := by decide +kernel
theorem dX0_collect_14 : decode cX0_collect 14 = .ok (.iload_n 2, 1) := by decide +kernel
theorem dX0_collect_15 : decode cX0_collect 15 = .ok (.istore 4, 2) := by decide +kernel
theorem dX0_collect_17 : decode cX0_collect 17 = .ok (.iload 4, 2) := by decide +kernel
theorem dX0_collect_19 : decode cX0_collect 19 = .ok (.ifCond .le 58, 3) := by decide +kernel
theorem dX0_collect_22 : decode cX0_collect 22 = .ok (.aload_n 0, 1) := by decide +kernel
theorem dX0_collect_23 : decode cX0_collect 23 = .ok (.getfield 26, 3) := by decide +kernel
theorem dX0_collect_26 : decode cX0_collect 26 = .ok (.aload_n 0, 1) := by decide +kernel
theorem dX0_collect_27 : decode cX0_collect 27 = .ok (.getfield 23, 3) := by decide +kernel
theorem dX0_collect_30 : decode cX0_collect 30 = .ok (.arraylength, 1) := by decide +kernel
theorem dX0_collect_31 : decode cX0_collect 31 = .ok (.if_icmp .ge 46, 3) := by decide +kernel
theorem dX0_collect_34 : decode cX0_collect 34 = .ok (.aload_n 0, 1) := by decide +kernel
theorem dX0_collect_35 : decode cX0_collect 35 = .ok (.aload_n 0, 1) := by decide +kernel
theorem dX0_collect_36 : decode cX0_collect 36 = .ok (.getfield 15, 3) := by decide +kernel
theorem dX0_collect_39 : decode cX0_collect 39 = .ok (.iload_n 3, 1) := by decide +kernel
theorem dX0_collect_40 : decode cX0_collect 40 = .ok (.invokevirtual 55, 3) := by decide +kernel
theorem dX0_collect_43 : decode cX0_collect 43 = .ok (.iload 4, 2) := by decide +kernel
theorem dX0_collect_45 : decode cX0_collect 45 = .ok (.iconst 1, 1) := by decide +kernel
theorem dX0_collect_46 : decode cX0_collect 46 = .ok (.isub, 1) := by decide +kernel
theorem dX0_collect_47 : decode cX0_collect 47 = .ok (.invokevirtual 85, 3) := by decide +kernel
theorem dX0_collect_50 : decode cX0_collect 50 = .ok (.istore_n 3, 1) := by decide +kernel
theorem dX0_collect_51 : decode cX0_collect 51 = .ok (.aload_n 0, 1) := by decide +kernel
theorem dX0_collect_52 : decode cX0_collect 52 = .ok (.getfield 23, 3) := by decide +kernel
theorem dX0_collect_55 : decode cX0_collect 55 = .ok (.aload_n 0, 1) := by decide +kernel
theorem dX0_collect_56 : decode cX0_collect 56 = .ok (.getfield 26, 3) := by decide +kernel
theorem dX0_collect_59 : decode cX0_collect 59 = .ok (.iload_n 3, 1) := by decide +kernel
theorem dX0_collect_60 : decode cX0_collect 60 = .ok (.iastore, 1) := by decide +kernel
theorem dX0_collect_61 : decode cX0_collect 61 = .ok (.aload_n 0, 1) := by decide +kernel
theorem dX0_collect_62 : decode cX0_collect 62 = .ok (.dup, 1) := by decide +kernel
theorem dX0_collect_63 : decode cX0_collect 63 = .ok (.getfield 26, 3) := by decide +kernel
theorem dX0_collect_66 : decode cX0_collect 66 = .ok (.iconst 1, 1) := by decide +kernel
theorem dX0_collect_67 : decode cX0_collect 67 = .ok (.iadd, 1) := by decide +kernel
theorem dX0_collect_68 : decode cX0_collect 68 = .ok (.putfield 26, 3) := by decide +kernel
theorem dX0_collect_71 : decode cX0_collect 71 = .ok (.iinc 4 (-1), 3) := by decide +kernel
theorem dX0_collect_74 : decode cX0_collect 74 = .ok (.goto (-57), 3) := by decide +kernel
theorem dX0_collect_77 : decode cX0_collect 77 = .ok (.return_, 1) := by decide +kernel
theorem dX0_lowestIn_0 : decode cX0_lowestIn 0 = .ok (.iconst 1, 1) := by decide +kernel
theorem dX0_lowestIn_1 : decode cX0_lowestIn 1 = .ok (.istore_n 3, 1) := by decide +kernel
theorem dX0_lowestIn_2 : decode cX0_lowestIn 2 = .ok (.iload_n 3, 1) := by decide +kernel
theorem dX0_lowestIn_3 : decode cX0_lowestIn 3 = .ok (.aload_n 0, 1) := by decide +kernel
theorem dX0_lowestIn_4 : decode cX0_lowestIn 4 = .ok (.getfield 15, 3) := by decide +kernel
theorem dX0_lowestIn_7 : decode cX0_lowestIn 7 = .ok (.invokevirtual 73, 3) := by decide +kernel
theorem dX0_lowestIn_10 : decode cX0_lowestIn 10 = .ok (.if_icmp .gt 47, 3) := by decide +kernel
theorem dX0_lowestIn_13 : decode cX0_lowestIn 13 = .ok (.aload_n 0, 1) := by decide +kernel
theorem dX0_lowestIn_14 : decode cX0_lowestIn 14 = .ok (.iload_n 3, 1) := by decide +kernel
theorem dX0_lowestIn_15 : decode cX0_lowestIn 15 = .ok (.invokevirtual 76, 3) := by decide +kernel
theorem dX0_lowestIn_18 : decode cX0_lowestIn 18 = .ok (.ifCond .eq 33, 3) := by decide +kernel
theorem dX0_lowestIn_21 : decode cX0_lowestIn 21 = .ok (.aload_n 0, 1) := by decide +kernel
theorem dX0_lowestIn_22 : decode cX0_lowestIn 22 = .ok (.getfield 15, 3) := by decide +kernel
theorem dX0_lowestIn_25 : decode cX0_lowestIn 25 = .ok (.iload_n 3, 1) := by decide +kernel
theorem dX0_lowestIn_26 : decode cX0_lowestIn 26 = .ok (.invokevirtual 39, 3) := by decide +kernel
theorem dX0_lowestIn_29 : decode cX0_lowestIn 29 = .ok (.iload_n 1, 1) := by decide +kernel
theorem dX0_lowestIn_30 : decode cX0_lowestIn 30 = .ok (.if_icmp .ne 21, 3) := by decide +kernel
theorem dX0_lowestIn_33 : decode cX0_lowestIn 33 = .ok (.aload_n 0, 1) := by decide +kernel
theorem dX0_lowestIn_34 : decode cX0_lowestIn 34 = .ok (.aload_n 0, 1) := by decide +kernel
theorem dX0_lowestIn_35 : decode cX0_lowestIn 35 = .ok (.getfield 15, 3) := by decide +kernel
theorem dX0_lowestIn_38 : decode cX0_lowestIn 38 = .ok (.iload_n 3, 1) := by decide +kernel
theorem dX0_lowestIn_39 : decode cX0_lowestIn 39 = .ok (.invokevirtual 55, 3) := by decide +kernel
theorem dX0_lowestIn_42 : decode cX0_lowestIn 42 = .ok (.invokevirtual 58, 3) := by decide +kernel
theorem dX0_lowestIn_45 : decode cX0_lowestIn 45 = .ok (.iload_n 2, 1) := by decide +kernel
theorem dX0_lowestIn_46 : decode cX0_lowestIn 46 = .ok (.if_icmp .ne 5, 3) := by decide +kernel
theorem dX0_lowestIn_49 : decode cX0_lowestIn 49 = .ok (.iload_n 3, 1) := by decide +kernel
theorem dX0_lowestIn_50 : decode cX0_lowestIn 50 = .ok (.ireturn, 1) := by decide +kernel
theorem dX0_lowestIn_51 : decode cX0_lowestIn 51 = .ok (.iinc 3 1, 3) := by decide +kernel
theorem dX0_lowestIn_54 : decode cX0_lowestIn 54 = .ok (.goto (-52), 3) := by decide +kernel
theorem dX0_lowestIn_57 : decode cX0_lowestIn 57 = .ok (.iconst (-1), 1) := by decide +kernel
theorem dX0_lowestIn_58 : decode cX0_lowestIn 58 = .ok (.ireturn, 1) := by decide +kernel
theorem dX0_carryOut_0 : decode cX0_carryOut 0 = .ok (.aload_n 0, 1) := by decide +kernel
theorem dX0_carryOut_1 : decode cX0_carryOut 1 = .ok (.getfield 26, 3) := by decide +kernel
theorem dX0_carryOut_4 : decode cX0_carryOut 4 = .ok (.iconst 1, 1) := by decide +kernel
theorem dX0_carryOut_5 : decode cX0_carryOut 5 = .ok (.if_icmp .lt 15, 3) := by decide +kernel
theorem dX0_carryOut_8 : decode cX0_carryOut 8 = .ok (.aload_n 0, 1) := by decide +kernel
theorem dX0_carryOut_9 : decode cX0_carryOut 9 = .ok (.getfield 26, 3) := by decide +kernel
theorem dX0_carryOut_12 : decode cX0_carryOut 12 = .ok (.aload_n 0, 1) := by decide +kernel
theorem dX0_carryOut_13 : decode cX0_carryOut 13 = .ok (.getfield 23, 3) := by decide +kernel
theorem dX0_carryOut_16 : decode cX0_carryOut 16 = .ok (.arraylength, 1) := by decide +kernel
theorem dX0_carryOut_17 : decode cX0_carryOut 17 = .ok (.if_icmp .le 5, 3) := by decide +kernel
theorem dX0_carryOut_20 : decode cX0_carryOut 20 = .ok (.iconst 0, 1) := by decide +kernel
theorem dX0_carryOut_21 : decode cX0_carryOut 21 = .ok (.ireturn, 1) := by decide +kernel
theorem dX0_carryOut_22 : decode cX0_carryOut 22 = .ok (.aload_n 0, 1) := by decide +kernel
theorem dX0_carryOut_23 : decode cX0_carryOut 23 = .ok (.getfield 23, 3) := by decide +kernel
theorem dX0_carryOut_26 : decode cX0_carryOut 26 = .ok (.iconst 0, 1) := by decide +kernel
theorem dX0_carryOut_27 : decode cX0_carryOut 27 = .ok (.iaload, 1) := by decide +kernel
theorem dX0_carryOut_28 : decode cX0_carryOut 28 = .ok (.istore_n 1, 1) := by decide +kernel
theorem dX0_carryOut_29 : decode cX0_carryOut 29 = .ok (.aload_n 0, 1) := by decide +kernel
theorem dX0_carryOut_30 : decode cX0_carryOut 30 = .ok (.getfield 15, 3) := by decide +kernel
theorem dX0_carryOut_33 : decode cX0_carryOut 33 = .ok (.iload_n 1, 1) := by decide +kernel
theorem dX0_carryOut_34 : decode cX0_carryOut 34 = .ok (.invokevirtual 39, 3) := by decide +kernel
theorem dX0_carryOut_37 : decode cX0_carryOut 37 = .ok (.istore_n 2, 1) := by decide +kernel
theorem dX0_carryOut_38 : decode cX0_carryOut 38 = .ok (.aload_n 0, 1) := by decide +kernel
theorem dX0_carryOut_39 : decode cX0_carryOut 39 = .ok (.getfield 15, 3) := by decide +kernel
theorem dX0_carryOut_42 : decode cX0_carryOut 42 = .ok (.iload_n 1, 1) := by decide +kernel
theorem dX0_carryOut_43 : decode cX0_carryOut 43 = .ok (.invokevirtual 88, 3) := by decide +kernel
theorem dX0_carryOut_46 : decode cX0_carryOut 46 = .ok (.istore_n 3, 1) := by decide +kernel
theorem dX0_carryOut_47 : decode cX0_carryOut 47 = .ok (.aload_n 0, 1) := by decide +kernel
theorem dX0_carryOut_48 : decode cX0_carryOut 48 = .ok (.getfield 23, 3) := by decide +kernel
theorem dX0_carryOut_51 : decode cX0_carryOut 51 = .ok (.aload_n 0, 1) := by decide +kernel
theorem dX0_carryOut_52 : decode cX0_carryOut 52 = .ok (.getfield 26, 3) := by decide +kernel
theorem dX0_carryOut_55 : decode cX0_carryOut 55 = .ok (.iconst 1, 1) := by decide +kernel
theorem dX0_carryOut_56 : decode cX0_carryOut 56 = .ok (.isub, 1) := by decide +kernel
theorem dX0_carryOut_57 : decode cX0_carryOut 57 = .ok (.iaload, 1) := by decide +kernel
theorem dX0_carryOut_58 : decode cX0_carryOut 58 = .ok (.istore 4, 2) := by decide +kernel
theorem dX0_carryOut_60 : decode cX0_carryOut 60 = .ok (.aload_n 0, 1) := by decide +kernel
theorem dX0_carryOut_61 : decode cX0_carryOut 61 = .ok (.getfield 15, 3) := by decide +kernel
theorem dX0_carryOut_64 : decode cX0_carryOut 64 = .ok (.iload 4, 2) := by decide +kernel
theorem dX0_carryOut_66 : decode cX0_carryOut 66 = .ok (.invokevirtual 55, 3) := by decide +kernel
theorem dX0_carryOut_69 : decode cX0_carryOut 69 = .ok (.istore 5, 2) := by decide +kernel
theorem dX0_carryOut_71 : decode cX0_carryOut 71 = .ok (.aload_n 0, 1) := by decide +kernel
theorem dX0_carryOut_72 : decode cX0_carryOut 72 = .ok (.getfield 9, 3) := by decide +kernel
theorem dX0_carryOut_75 : decode cX0_carryOut 75 = .ok (.iload 5, 2) := by decide +kernel
theorem dX0_carryOut_77 : decode cX0_carryOut 77 = .ok (.aload_n 0, 1) := by decide +kernel
theorem dX0_carryOut_78 : decode cX0_carryOut 78 = .ok (.getfield 30, 3) := by decide +kernel
theorem dX0_carryOut_81 : decode cX0_carryOut 81 = .ok (.iconst 1, 1) := by decide +kernel
theorem dX0_carryOut_82 : decode cX0_carryOut 82 = .ok (.invokevirtual 69, 3) := by decide +kernel
theorem dX0_carryOut_85 : decode cX0_carryOut 85 = .ok (.istore 6, 2) := by decide +kernel
theorem dX0_carryOut_87 : decode cX0_carryOut 87 = .ok (.aload_n 0, 1) := by decide +kernel
theorem dX0_carryOut_88 : decode cX0_carryOut 88 = .ok (.getfield 9, 3) := by decide +kernel
theorem dX0_carryOut_91 : decode cX0_carryOut 91 = .ok (.iload_n 2, 1) := by decide +kernel
theorem dX0_carryOut_92 : decode cX0_carryOut 92 = .ok (.iload_n 3, 1) := by decide +kernel
theorem dX0_carryOut_93 : decode cX0_carryOut 93 = .ok (.aload_n 0, 1) := by decide +kernel
theorem dX0_carryOut_94 : decode cX0_carryOut 94 = .ok (.getfield 30, 3) := by decide +kernel
theorem dX0_carryOut_97 : decode cX0_carryOut 97 = .ok (.iconst 0, 1) := by decide +kernel
theorem dX0_carryOut_98 : decode cX0_carryOut 98 = .ok (.invokevirtual 91, 3) := by decide +kernel
theorem dX0_carryOut_101 : decode cX0_carryOut 101 = .ok (.iconst 0, 1) := by decide +kernel
theorem dX0_carryOut_102 : decode cX0_carryOut 102 = .ok (.istore 7, 2) := by decide +kernel
theorem dX0_carryOut_104 : decode cX0_carryOut 104 = .ok (.iload 7, 2) := by decide +kernel
theorem dX0_carryOut_106 : decode cX0_carryOut 106 = .ok (.iconst 1, 1) := by decide +kernel
theorem dX0_carryOut_107 : decode cX0_carryOut 107 = .ok (.iadd, 1) := by decide +kernel
theorem dX0_carryOut_108 : decode cX0_carryOut 108 = .ok (.aload_n 0, 1) := by decide +kernel
theorem dX0_carryOut_109 : decode cX0_carryOut 109 = .ok (.getfield 26, 3) := by decide +kernel
theorem dX0_carryOut_112 : decode cX0_carryOut 112 = .ok (.if_icmp .ge 49, 3) := by decide +kernel
theorem dX0_carryOut_115 : decode cX0_carryOut 115 = .ok (.aload_n 0, 1) := by decide +kernel
theorem dX0_carryOut_116 : decode cX0_carryOut 116 = .ok (.getfield 23, 3) := by decide +kernel
theorem dX0_carryOut_119 : decode cX0_carryOut 119 = .ok (.iload 7, 2) := by decide +kernel
theorem dX0_carryOut_121 : decode cX0_carryOut 121 = .ok (.iconst 1, 1) := by decide +kernel
theorem dX0_carryOut_122 : decode cX0_carryOut 122 = .ok (.iadd, 1) := by decide +kernel
theorem dX0_carryOut_123 : decode cX0_carryOut 123 = .ok (.iaload, 1) := by decide +kernel
theorem dX0_carryOut_124 : decode cX0_carryOut 124 = .ok (.istore 8, 2) := by decide +kernel
theorem dX0_carryOut_126 : decode cX0_carryOut 126 = .ok (.aload_n 0, 1) := by decide +kernel
theorem dX0_carryOut_127 : decode cX0_carryOut 127 = .ok (.aload_n 0, 1) := by decide +kernel
theorem dX0_carryOut_128 : decode cX0_carryOut 128 = .ok (.getfield 23, 3) := by decide +kernel
theorem dX0_carryOut_131 : decode cX0_carryOut 131 = .ok (.iload 7, 2) := by decide +kernel
theorem dX0_carryOut_133 : decode cX0_carryOut 133 = .ok (.iaload, 1) := by decide +kernel
theorem dX0_carryOut_134 : decode cX0_carryOut 134 = .ok (.aload_n 0, 1) := by decide +kernel
theorem dX0_carryOut_135 : decode cX0_carryOut 135 = .ok (.getfield 15, 3) := by decide +kernel
theorem dX0_carryOut_138 : decode cX0_carryOut 138 = .ok (.iload 8, 2) := by decide +kernel
theorem dX0_carryOut_140 : decode cX0_carryOut 140 = .ok (.invokevirtual 39, 3) := by decide +kernel
theorem dX0_carryOut_143 : decode cX0_carryOut 143 = .ok (.aload_n 0, 1) := by decide +kernel
theorem dX0_carryOut_144 : decode cX0_carryOut 144 = .ok (.getfield 15, 3) := by decide +kernel
theorem dX0_carryOut_147 : decode cX0_carryOut 147 = .ok (.iload 8, 2) := by decide +kernel
theorem dX0_carryOut_149 : decode cX0_carryOut 149 = .ok (.invokevirtual 88, 3) := by decide +kernel
theorem dX0_carryOut_152 : decode cX0_carryOut 152 = .ok (.invokevirtual 95, 3) := by decide +kernel
theorem dX0_carryOut_155 : decode cX0_carryOut 155 = .ok (.iinc 7 1, 3) := by decide +kernel
theorem dX0_carryOut_158 : decode cX0_carryOut 158 = .ok (.goto (-54), 3) := by decide +kernel
theorem dX0_carryOut_161 : decode cX0_carryOut 161 = .ok (.iload 6, 2) := by decide +kernel
theorem dX0_carryOut_163 : decode cX0_carryOut 163 = .ok (.iconst (-1), 1) := by decide +kernel
theorem dX0_carryOut_164 : decode cX0_carryOut 164 = .ok (.if_icmp .eq 16, 3) := by decide +kernel
theorem dX0_carryOut_167 : decode cX0_carryOut 167 = .ok (.aload_n 0, 1) := by decide +kernel
theorem dX0_carryOut_168 : decode cX0_carryOut 168 = .ok (.iload 4, 2) := by decide +kernel
theorem dX0_carryOut_170 : decode cX0_carryOut 170 = .ok (.iload 5, 2) := by decide +kernel
theorem dX0_carryOut_172 : decode cX0_carryOut 172 = .ok (.iload 6, 2) := by decide +kernel
theorem dX0_carryOut_174 : decode cX0_carryOut 174 = .ok (.invokevirtual 95, 3) := by decide +kernel
theorem dX0_carryOut_177 : decode cX0_carryOut 177 = .ok (.goto 11, 3) := by decide +kernel
theorem dX0_carryOut_180 : decode cX0_carryOut 180 = .ok (.aload_n 0, 1) := by decide +kernel
theorem dX0_carryOut_181 : decode cX0_carryOut 181 = .ok (.iload 4, 2) := by decide +kernel
theorem dX0_carryOut_183 : decode cX0_carryOut 183 = .ok (.iload_n 2, 1) := by decide +kernel
theorem dX0_carryOut_184 : decode cX0_carryOut 184 = .ok (.iload_n 3, 1) := by decide +kernel
theorem dX0_carryOut_185 : decode cX0_carryOut 185 = .ok (.invokevirtual 95, 3) := by decide +kernel
theorem dX0_carryOut_188 : decode cX0_carryOut 188 = .ok (.aload_n 0, 1) := by decide +kernel
theorem dX0_carryOut_189 : decode cX0_carryOut 189 = .ok (.getfield 26, 3) := by decide +kernel
theorem dX0_carryOut_192 : decode cX0_carryOut 192 = .ok (.ireturn, 1) := by decide +kernel
theorem dX0_move_0 : decode cX0_move 0 = .ok (.aload_n 0, 1) := by decide +kernel
theorem dX0_move_1 : decode cX0_move 1 = .ok (.getfield 9, 3) := by decide +kernel
theorem dX0_move_4 : decode cX0_move 4 = .ok (.iload_n 2, 1) := by decide +kernel
theorem dX0_move_5 : decode cX0_move 5 = .ok (.iload_n 3, 1) := by decide +kernel
theorem dX0_move_6 : decode cX0_move 6 = .ok (.aload_n 0, 1) := by decide +kernel
theorem dX0_move_7 : decode cX0_move 7 = .ok (.getfield 30, 3) := by decide +kernel
theorem dX0_move_10 : decode cX0_move 10 = .ok (.iload_n 1, 1) := by decide +kernel
theorem dX0_move_11 : decode cX0_move 11 = .ok (.invokevirtual 91, 3) := by decide +kernel
theorem dX0_move_14 : decode cX0_move 14 = .ok (.aload_n 0, 1) := by decide +kernel
theorem dX0_move_15 : decode cX0_move 15 = .ok (.getfield 15, 3) := by decide +kernel
theorem dX0_move_18 : decode cX0_move 18 = .ok (.iload_n 1, 1) := by decide +kernel
theorem dX0_move_19 : decode cX0_move 19 = .ok (.iload_n 2, 1) := by decide +kernel
theorem dX0_move_20 : decode cX0_move 20 = .ok (.iload_n 3, 1) := by decide +kernel
theorem dX0_move_21 : decode cX0_move 21 = .ok (.invokevirtual 99, 3) := by decide +kernel
theorem dX0_move_24 : decode cX0_move 24 = .ok (.aload_n 0, 1) := by decide +kernel
theorem dX0_move_25 : decode cX0_move 25 = .ok (.getfield 15, 3) := by decide +kernel
theorem dX0_move_28 : decode cX0_move 28 = .ok (.iload_n 1, 1) := by decide +kernel
theorem dX0_move_29 : decode cX0_move 29 = .ok (.iconst (-1), 1) := by decide +kernel
theorem dX0_move_30 : decode cX0_move 30 = .ok (.invokevirtual 102, 3) := by decide +kernel
theorem dX0_move_33 : decode cX0_move 33 = .ok (.return_, 1) := by decide +kernel
theorem dX1_init_0 : decode cX1_init 0 = .ok (.aload_n 0, 1) := by decide +kernel
theorem dX1_init_1 : decode cX1_init 1 = .ok (.invokespecial 3, 3) := by decide +kernel
theorem dX1_init_4 : decode cX1_init 4 = .ok (.aload_n 0, 1) := by decide +kernel
theorem dX1_init_5 : decode cX1_init 5 = .ok (.aload_n 1, 1) := by decide +kernel
theorem dX1_init_6 : decode cX1_init 6 = .ok (.putfield 9, 3) := by decide +kernel
theorem dX1_init_9 : decode cX1_init 9 = .ok (.aload_n 0, 1) := by decide +kernel
theorem dX1_init_10 : decode cX1_init 10 = .ok (.bipush 12, 2) := by decide +kernel
theorem dX1_init_12 : decode cX1_init 12 = .ok (.newarray .int, 2) := by decide +kernel
theorem dX1_init_14 : decode cX1_init 14 = .ok (.putfield 15, 3) := by decide +kernel
theorem dX1_init_17 : decode cX1_init 17 = .ok (.aload_n 0, 1) := by decide +kernel
theorem dX1_init_18 : decode cX1_init 18 = .ok (.bipush 12, 2) := by decide +kernel
theorem dX1_init_20 : decode cX1_init 20 = .ok (.bipush 21, 2) := by decide +kernel
theorem dX1_init_22 : decode cX1_init 22 = .ok (.multianewarray 19 2, 4) := by decide +kernel
theorem dX1_init_26 : decode cX1_init 26 = .ok (.putfield 21, 3) := by decide +kernel
theorem dX1_init_29 : decode cX1_init 29 = .ok (.aload_n 0, 1) := by decide +kernel
theorem dX1_init_30 : decode cX1_init 30 = .ok (.bipush 12, 2) := by decide +kernel
theorem dX1_init_32 : decode cX1_init 32 = .ok (.bipush 21, 2) := by decide +kernel
theorem dX1_init_34 : decode cX1_init 34 = .ok (.multianewarray 19 2, 4) := by decide +kernel
theorem dX1_init_38 : decode cX1_init 38 = .ok (.putfield 24, 3) := by decide +kernel
theorem dX1_init_41 : decode cX1_init 41 = .ok (.aload_n 0, 1) := by decide +kernel
theorem dX1_init_42 : decode cX1_init 42 = .ok (.bipush 13, 2) := by decide +kernel
theorem dX1_init_44 : decode cX1_init 44 = .ok (.bipush 101, 2) := by decide +kernel
theorem dX1_init_46 : decode cX1_init 46 = .ok (.multianewarray 19 2, 4) := by decide +kernel
theorem dX1_init_50 : decode cX1_init 50 = .ok (.putfield 27, 3) := by decide +kernel
theorem dX1_init_53 : decode cX1_init 53 = .ok (.aload_n 0, 1) := by decide +kernel
theorem dX1_init_54 : decode cX1_init 54 = .ok (.bipush 13, 2) := by decide +kernel
theorem dX1_init_56 : decode cX1_init 56 = .ok (.bipush 101, 2) := by decide +kernel
theorem dX1_init_58 : decode cX1_init 58 = .ok (.multianewarray 19 2, 4) := by decide +kernel
theorem dX1_init_62 : decode cX1_init 62 = .ok (.putfield 30, 3) := by decide +kernel
theorem dX1_init_65 : decode cX1_init 65 = .ok (.aload_n 0, 1) := by decide +kernel
theorem dX1_init_66 : decode cX1_init 66 = .ok (.bipush 12, 2) := by decide +kernel
theorem dX1_init_68 : decode cX1_init 68 = .ok (.newarray .int, 2) := by decide +kernel
theorem dX1_init_70 : decode cX1_init 70 = .ok (.putfield 33, 3) := by decide +kernel
theorem dX1_init_73 : decode cX1_init 73 = .ok (.aload_n 0, 1) := by decide +kernel
theorem dX1_init_74 : decode cX1_init 74 = .ok (.iconst 0, 1) := by decide +kernel
theorem dX1_init_75 : decode cX1_init 75 = .ok (.putfield 36, 3) := by decide +kernel
theorem dX1_init_78 : decode cX1_init 78 = .ok (.return_, 1) := by decide +kernel
theorem dX1_rowsUsed_0 : decode cX1_rowsUsed 0 = .ok (.aload_n 0, 1) := by decide +kernel
theorem dX1_rowsUsed_1 : decode cX1_rowsUsed 1 = .ok (.getfield 36, 3) := by decide +kernel
theorem dX1_rowsUsed_4 : decode cX1_rowsUsed 4 = .ok (.ireturn, 1) := by decide +kernel
theorem dX1_seatsFrom_0 : decode cX1_seatsFrom 0 = .ok (.aload_n 0, 1) := by decide +kernel
theorem dX1_seatsFrom_1 : decode cX1_seatsFrom 1 = .ok (.getfield 9, 3) := by decide +kernel
theorem dX1_seatsFrom_4 : decode cX1_seatsFrom 4 = .ok (.iload_n 1, 1) := by decide +kernel
theorem dX1_seatsFrom_5 : decode cX1_seatsFrom 5 = .ok (.invokevirtual 40, 3) := by decide +kernel
theorem dX1_seatsFrom_8 : decode cX1_seatsFrom 8 = .ok (.ifCond .eq 12, 3) := by decide +kernel
theorem dX1_seatsFrom_11 : decode cX1_seatsFrom 11 = .ok (.aload_n 0, 1) := by decide +kernel
theorem dX1_seatsFrom_12 : decode cX1_seatsFrom 12 = .ok (.getfield 33, 3) := by decide +kernel
theorem dX1_seatsFrom_15 : decode cX1_seatsFrom 15 = .ok (.iload_n 1, 1) := by decide +kernel
theorem dX1_seatsFrom_16 : decode cX1_seatsFrom 16 = .ok (.iaload, 1) := by decide +kernel
theorem dX1_seatsFrom_17 : decode cX1_seatsFrom 17 = .ok (.goto 4, 3) := by decide +kernel
theorem dX1_seatsFrom_20 : decode cX1_seatsFrom 20 = .ok (.iconst 0, 1) := by decide +kernel
theorem dX1_seatsFrom_21 : decode cX1_seatsFrom 21 = .ok (.ireturn, 1) := by decide +kernel
theorem dX1_firstIn_0 : decode cX1_firstIn 0 = .ok (.aload_n 0, 1) := by decide +kernel
theorem dX1_firstIn_1 : decode cX1_firstIn 1 = .ok (.getfield 9, 3) := by decide +kernel
theorem dX1_firstIn_4 : decode cX1_firstIn 4 = .ok (.iload_n 1, 1) := by decide +kernel
theorem dX1_firstIn_5 : decode cX1_firstIn 5 = .ok (.invokevirtual 40, 3) := by decide +kernel
theorem dX1_firstIn_8 : decode cX1_firstIn 8 = .ok (.ifCond .eq 19, 3) := by decide +kernel
theorem dX1_firstIn_11 : decode cX1_firstIn 11 = .ok (.aload_n 0, 1) := by decide +kernel
theorem dX1_firstIn_12 : decode cX1_firstIn 12 = .ok (.getfield 21, 3) := by decide +kernel
theorem dX1_firstIn_15 : decode cX1_firstIn 15 = .ok (.iload_n 1, 1) := by decide +kernel
theorem dX1_firstIn_16 : decode cX1_firstIn 16 = .ok (.aaload, 1) := by decide +kernel
theorem dX1_firstIn_17 : decode cX1_firstIn 17 = .ok (.aload_n 0, 1) := by decide +kernel
theorem dX1_firstIn_18 : decode cX1_firstIn 18 = .ok (.getfield 33, 3) := by decide +kernel
theorem dX1_firstIn_21 : decode cX1_firstIn 21 = .ok (.iload_n 1, 1) := by decide +kernel
theorem dX1_firstIn_22 : decode cX1_firstIn 22 = .ok (.iaload, 1) := by decide +kernel
theorem dX1_firstIn_23 : decode cX1_firstIn 23 = .ok (.iaload, 1) := by decide +kernel
theorem dX1_firstIn_24 : decode cX1_firstIn 24 = .ok (.goto 4, 3) := by decide +kernel
theorem dX1_firstIn_27 : decode cX1_firstIn 27 = .ok (.iconst (-1), 1) := by decide +kernel
theorem dX1_firstIn_28 : decode cX1_firstIn 28 = .ok (.ireturn, 1) := by decide +kernel
theorem dX1_find_0 : decode cX1_find 0 = .ok (.iload_n 1, 1) := by decide +kernel
theorem dX1_find_1 : decode cX1_find 1 = .ok (.iconst 2, 1) := by decide +kernel
theorem dX1_find_2 : decode cX1_find 2 = .ok (.if_icmp .lt 9, 3) := by decide +kernel
theorem dX1_find_5 : decode cX1_find 5 = .ok (.iload_n 1, 1) := by decide +kernel
theorem dX1_find_6 : decode cX1_find 6 = .ok (.bipush 100, 2) := by decide +kernel
theorem dX1_find_8 : decode cX1_find 8 = .ok (.if_icmp .le 5, 3) := by decide +kernel
theorem dX1_find_11 : decode cX1_find 11 = .ok (.iconst 0, 1) := by decide +kernel
theorem dX1_find_12 : decode cX1_find 12 = .ok (.ireturn, 1) := by decide +kernel
theorem dX1_find_13 : decode cX1_find 13 = .ok (.aload_n 0, 1) := by decide +kernel
theorem dX1_find_14 : decode cX1_find 14 = .ok (.iload_n 1, 1) := by decide +kernel
theorem dX1_find_15 : decode cX1_find 15 = .ok (.invokevirtual 46, 3) := by decide +kernel
theorem dX1_find_18 : decode cX1_find 18 = .ok (.aload_n 0, 1) := by decide +kernel
theorem dX1_find_19 : decode cX1_find 19 = .ok (.getfield 9, 3) := by decide +kernel
theorem dX1_find_22 : decode cX1_find 22 = .ok (.invokevirtual 50, 3) := by decide +kernel
theorem dX1_find_25 : decode cX1_find 25 = .ok (.iconst 1, 1) := by decide +kernel
theorem dX1_find_26 : decode cX1_find 26 = .ok (.isub, 1) := by decide +kernel
theorem dX1_find_27 : decode cX1_find 27 = .ok (.istore_n 2, 1) := by decide +kernel
theorem dX1_find_28 : decode cX1_find 28 = .ok (.iload_n 2, 1) := by decide +kernel
theorem dX1_find_29 : decode cX1_find 29 = .ok (.ifCond .lt 33, 3) := by decide +kernel
theorem dX1_find_32 : decode cX1_find 32 = .ok (.aload_n 0, 1) := by decide +kernel
theorem dX1_find_33 : decode cX1_find 33 = .ok (.iload_n 2, 1) := by decide +kernel
theorem dX1_find_34 : decode cX1_find 34 = .ok (.invokevirtual 54, 3) := by decide +kernel
theorem dX1_find_37 : decode cX1_find 37 = .ok (.iconst 0, 1) := by decide +kernel
theorem dX1_find_38 : decode cX1_find 38 = .ok (.istore_n 3, 1) := by decide +kernel
theorem dX1_find_39 : decode cX1_find 39 = .ok (.iload_n 3, 1) := by decide +kernel
theorem dX1_find_40 : decode cX1_find 40 = .ok (.iload_n 1, 1) := by decide +kernel
theorem dX1_find_41 : decode cX1_find 41 = .ok (.if_icmp .gt 15, 3) := by decide +kernel
theorem dX1_find_44 : decode cX1_find 44 = .ok (.aload_n 0, 1) := by decide +kernel
theorem dX1_find_45 : decode cX1_find 45 = .ok (.iload_n 2, 1) := by decide +kernel
theorem dX1_find_46 : decode cX1_find 46 = .ok (.iload_n 3, 1) := by decide +kernel
theorem dX1_find_47 : decode cX1_find 47 = .ok (.invokevirtual 57, 3) := by decide +kernel
theorem dX1_find_50 : decode cX1_find 50 = .ok (.iinc 3 1, 3) := by decide +kernel
theorem dX1_find_53 : decode cX1_find 53 = .ok (.goto (-14), 3) := by decide +kernel
theorem dX1_find_56 : decode cX1_find 56 = .ok (.iinc 2 (-1), 3) := by decide +kernel
theorem dX1_find_59 : decode cX1_find 59 = .ok (.goto (-31), 3) := by decide +kernel
theorem dX1_find_62 : decode cX1_find 62 = .ok (.aload_n 0, 1) := by decide +kernel
theorem dX1_find_63 : decode cX1_find 63 = .ok (.aload_n 0, 1) := by decide +kernel
theorem dX1_find_64 : decode cX1_find 64 = .ok (.getfield 27, 3) := by decide +kernel
theorem dX1_find_67 : decode cX1_find 67 = .ok (.iconst 0, 1) := by decide +kernel
theorem dX1_find_68 : decode cX1_find 68 = .ok (.aaload, 1) := by decide +kernel
theorem dX1_find_69 : decode cX1_find 69 = .ok (.iload_n 1, 1) := by decide +kernel
theorem dX1_find_70 : decode cX1_find 70 = .ok (.iaload, 1) := by decide +kernel
theorem dX1_find_71 : decode cX1_find 71 = .ok (.putfield 36, 3) := by decide +kernel
theorem dX1_find_74 : decode cX1_find 74 = .ok (.aload_n 0, 1) := by decide +kernel
theorem dX1_find_75 : decode cX1_find 75 = .ok (.getfield 36, 3) := by decide +kernel
theorem dX1_find_78 : decode cX1_find 78 = .ok (.bipush 13, 2) := by decide +kernel
theorem dX1_find_80 : decode cX1_find 80 = .ok (.if_icmp .lt 5, 3) := by decide +kernel
theorem dX1_find_83 : decode cX1_find 83 = .ok (.iconst 0, 1) := by decide +kernel
theorem dX1_find_84 : decode cX1_find 84 = .ok (.ireturn, 1) := by decide +kernel
theorem dX1_find_85 : decode cX1_find 85 = .ok (.aload_n 0, 1) := by decide +kernel
theorem dX1_find_86 : decode cX1_find 86 = .ok (.iload_n 1, 1) := by decide +kernel
theorem dX1_find_87 : decode cX1_find 87 = .ok (.invokevirtual 61, 3) := by decide +kernel
theorem dX1_find_90 : decode cX1_find 90 = .ok (.iconst 1, 1) := by decide +kernel
theorem dX1_find_91 : decode cX1_find 91 = .ok (.ireturn, 1) := by decide +kernel
theorem dX1_startBehindLastRow_0 : decode cX1_startBehindLastRow 0 = .ok (.aload_n 0, 1) := by decide +kernel
theorem dX1_startBehindLastRow_1 : decode cX1_startBehindLastRow 1 = .ok (.getfield 9, 3) := by decide +kernel
theorem dX1_startBehindLastRow_4 : decode cX1_startBehindLastRow 4 = .ok (.invokevirtual 50, 3) := by decide +kernel
theorem dX1_startBehindLastRow_7 : decode cX1_startBehindLastRow 7 = .ok (.istore_n 2, 1) := by decide +kernel
theorem dX1_startBehindLastRow_8 : decode cX1_startBehindLastRow 8 = .ok (.iconst 0, 1) := by decide +kernel
theorem dX1_startBehindLastRow_9 : decode cX1_startBehindLastRow 9 = .ok (.istore_n 3, 1) := by decide +kernel
theorem dX1_startBehindLastRow_10 : decode cX1_startBehindLastRow 10 = .ok (.iload_n 3, 1) := by decide +kernel
theorem dX1_startBehindLastRow_11 : decode cX1_startBehindLastRow 11 = .ok (.iload_n 1, 1) := by decide +kernel
theorem dX1_startBehindLastRow_12 : decode cX1_startBehindLastRow 12 = .ok (.if_icmp .gt 36, 3) := by decide +kernel
theorem dX1_startBehindLastRow_15 : decode cX1_startBehindLastRow 15 = .ok (.aload_n 0, 1) := by decide +kernel
theorem dX1_startBehindLastRow_16 : decode cX1_startBehindLastRow 16 = .ok (.getfield 27, 3) := by decide +kernel
theorem dX1_startBehindLastRow_19 : decode cX1_startBehindLastRow 19 = .ok (.iload_n 2, 1) := by decide +kernel
theorem dX1_startBehindLastRow_20 : decode cX1_startBehindLastRow 20 = .ok (.aaload, 1) := by decide +kernel
theorem dX1_startBehindLastRow_21 : decode cX1_startBehindLastRow 21 = .ok (.iload_n 3, 1) := by decide +kernel
theorem dX1_startBehindLastRow_22 : decode cX1_startBehindLastRow 22 = .ok (.iload_n 3, 1) := by decide +kernel
theorem dX1_startBehindLastRow_23 : decode cX1_startBehindLastRow 23 = .ok (.ifCond .ne 7, 3) := by decide +kernel
theorem dX1_startBehindLastRow_26 : decode cX1_startBehindLastRow 26 = .ok (.iconst 0, 1) := by decide +kernel
theorem dX1_startBehindLastRow_27 : decode cX1_startBehindLastRow 27 = .ok (.goto 5, 3) := by decide +kernel
theorem dX1_startBehindLastRow_30 : decode cX1_startBehindLastRow 30 = .ok (.bipush 13, 2) := by decide +kernel
theorem dX1_startBehindLastRow_32 : decode cX1_startBehindLastRow 32 = .ok (.iastore, 1) := by decide +kernel
theorem dX1_startBehindLastRow_33 : decode cX1_startBehindLastRow 33 = .ok (.aload_n 0, 1) := by decide +kernel
theorem dX1_startBehindLastRow_34 : decode cX1_startBehindLastRow 34 = .ok (.getfield 30, 3) := by decide +kernel
theorem dX1_startBehindLastRow_37 : decode cX1_startBehindLastRow 37 = .ok (.iload_n 2, 1) := by decide +kernel
theorem dX1_startBehindLastRow_38 : decode cX1_startBehindLastRow 38 = .ok (.aaload, 1) := by decide +kernel
theorem dX1_startBehindLastRow_39 : decode cX1_startBehindLastRow 39 = .ok (.iload_n 3, 1) := by decide +kernel
theorem dX1_startBehindLastRow_40 : decode cX1_startBehindLastRow 40 = .ok (.iconst 0, 1) := by decide +kernel
theorem dX1_startBehindLastRow_41 : decode cX1_startBehindLastRow 41 = .ok (.iastore, 1) := by decide +kernel
theorem dX1_startBehindLastRow_42 : decode cX1_startBehindLastRow 42 = .ok (.iinc 3 1, 3) := by decide +kernel
theorem dX1_startBehindLastRow_45 : decode cX1_startBehindLastRow 45 = .ok (.goto (-35), 3) := by decide +kernel
theorem dX1_startBehindLastRow_48 : decode cX1_startBehindLastRow 48 = .ok (.return_, 1) := by decide +kernel
theorem dX1_readBlocks_0 : decode cX1_readBlocks 0 = .ok (.aload_n 0, 1) := by decide +kernel
theorem dX1_readBlocks_1 : decode cX1_readBlocks 1 = .ok (.getfield 15, 3) := by decide +kernel
theorem dX1_readBlocks_4 : decode cX1_readBlocks 4 = .ok (.iload_n 1, 1) := by decide +kernel
theorem dX1_readBlocks_5 : decode cX1_readBlocks 5 = .ok (.aload_n 0, 1) := by decide +kernel
theorem dX1_readBlocks_6 : decode cX1_readBlocks 6 = .ok (.getfield 9, 3) := by decide +kernel
theorem dX1_readBlocks_9 : decode cX1_readBlocks 9 = .ok (.iload_n 1, 1) := by decide +kernel
theorem dX1_readBlocks_10 : decode cX1_readBlocks 10 = .ok (.invokevirtual 64, 3) := by decide +kernel
theorem dX1_readBlocks_13 : decode cX1_readBlocks 13 = .ok (.iastore, 1) := by decide +kernel
theorem dX1_readBlocks_14 : decode cX1_readBlocks 14 = .ok (.iconst 2, 1) := by decide +kernel
theorem dX1_readBlocks_15 : decode cX1_readBlocks 15 = .ok (.istore_n 2, 1) := by decide +kernel
theorem dX1_readBlocks_16 : decode cX1_readBlocks 16 = .ok (.iload_n 2, 1) := by decide +kernel
theorem dX1_readBlocks_17 : decode cX1_readBlocks 17 = .ok (.aload_n 0, 1) := by decide +kernel
theorem dX1_readBlocks_18 : decode cX1_readBlocks 18 = .ok (.getfield 15, 3) := by decide +kernel
theorem dX1_readBlocks_21 : decode cX1_readBlocks 21 = .ok (.iload_n 1, 1) := by decide +kernel
theorem dX1_readBlocks_22 : decode cX1_readBlocks 22 = .ok (.iaload, 1) := by decide +kernel
theorem dX1_readBlocks_23 : decode cX1_readBlocks 23 = .ok (.if_icmp .gt 47, 3) := by decide +kernel
theorem dX1_readBlocks_26 : decode cX1_readBlocks 26 = .ok (.aload_n 0, 1) := by decide +kernel
theorem dX1_readBlocks_27 : decode cX1_readBlocks 27 = .ok (.getfield 9, 3) := by decide +kernel
theorem dX1_readBlocks_30 : decode cX1_readBlocks 30 = .ok (.iload_n 1, 1) := by decide +kernel
theorem dX1_readBlocks_31 : decode cX1_readBlocks 31 = .ok (.iload_n 2, 1) := by decide +kernel
theorem dX1_readBlocks_32 : decode cX1_readBlocks 32 = .ok (.iconst 1, 1) := by decide +kernel
theorem dX1_readBlocks_33 : decode cX1_readBlocks 33 = .ok (.invokevirtual 68, 3) := by decide +kernel
theorem dX1_readBlocks_36 : decode cX1_readBlocks 36 = .ok (.istore_n 3, 1) := by decide +kernel
theorem dX1_readBlocks_37 : decode cX1_readBlocks 37 = .ok (.aload_n 0, 1) := by decide +kernel
theorem dX1_readBlocks_38 : decode cX1_readBlocks 38 = .ok (.getfield 21, 3) := by decide +kernel
theorem dX1_readBlocks_41 : decode cX1_readBlocks 41 = .ok (.iload_n 1, 1) := by decide +kernel
theorem dX1_readBlocks_42 : decode cX1_readBlocks 42 = .ok (.aaload, 1) := by decide +kernel
theorem dX1_readBlocks_43 : decode cX1_readBlocks 43 = .ok (.iload_n 2, 1) := by decide +kernel
theorem dX1_readBlocks_44 : decode cX1_readBlocks 44 = .ok (.iload_n 3, 1) := by decide +kernel
theorem dX1_readBlocks_45 : decode cX1_readBlocks 45 = .ok (.iastore, 1) := by decide +kernel
theorem dX1_readBlocks_46 : decode cX1_readBlocks 46 = .ok (.aload_n 0, 1) := by decide +kernel
theorem dX1_readBlocks_47 : decode cX1_readBlocks 47 = .ok (.getfield 24, 3) := by decide +kernel
theorem dX1_readBlocks_50 : decode cX1_readBlocks 50 = .ok (.iload_n 1, 1) := by decide +kernel
theorem dX1_readBlocks_51 : decode cX1_readBlocks 51 = .ok (.aaload, 1) := by decide +kernel
theorem dX1_readBlocks_52 : decode cX1_readBlocks 52 = .ok (.iload_n 2, 1) := by decide +kernel
theorem dX1_readBlocks_53 : decode cX1_readBlocks 53 = .ok (.aload_n 0, 1) := by decide +kernel
theorem dX1_readBlocks_54 : decode cX1_readBlocks 54 = .ok (.getfield 9, 3) := by decide +kernel
theorem dX1_readBlocks_57 : decode cX1_readBlocks 57 = .ok (.iload_n 1, 1) := by decide +kernel
theorem dX1_readBlocks_58 : decode cX1_readBlocks 58 = .ok (.iload_n 3, 1) := by decide +kernel
theorem dX1_readBlocks_59 : decode cX1_readBlocks 59 = .ok (.iload_n 2, 1) := by decide +kernel
theorem dX1_readBlocks_60 : decode cX1_readBlocks 60 = .ok (.invokevirtual 72, 3) := by decide +kernel
theorem dX1_readBlocks_63 : decode cX1_readBlocks 63 = .ok (.iastore, 1) := by decide +kernel
theorem dX1_readBlocks_64 : decode cX1_readBlocks 64 = .ok (.iinc 2 1, 3) := by decide +kernel
theorem dX1_readBlocks_67 : decode cX1_readBlocks 67 = .ok (.goto (-51), 3) := by decide +kernel
theorem dX1_readBlocks_70 : decode cX1_readBlocks 70 = .ok (.return_, 1) := by decide +kernel
theorem dX1_decide_0 : decode cX1_decide 0 = .ok (.aload_n 0, 1) := by decide +kernel
theorem dX1_decide_1 : decode cX1_decide 1 = .ok (.getfield 27, 3) := by decide +kernel
theorem dX1_decide_4 : decode cX1_decide 4 = .ok (.iload_n 1, 1) := by decide +kernel
theorem dX1_decide_5 : decode cX1_decide 5 = .ok (.iconst 1, 1) := by decide +kernel
theorem dX1_decide_6 : decode cX1_decide 6 = .ok (.iadd, 1) := by decide +kernel
theorem dX1_decide_7 : decode cX1_decide 7 = .ok (.aaload, 1) := by decide +kernel
theorem dX1_decide_8 : decode cX1_decide 8 = .ok (.iload_n 2, 1) := by decide +kernel
theorem dX1_decide_9 : decode cX1_decide 9 = .ok (.iaload, 1) := by decide +kernel
theorem dX1_decide_10 : decode cX1_decide 10 = .ok (.istore_n 3, 1) := by decide +kernel
theorem dX1_decide_11 : decode cX1_decide 11 = .ok (.aload_n 0, 1) := by decide +kernel
theorem dX1_decide_12 : decode cX1_decide 12 = .ok (.getfield 30, 3) := by decide +kernel
theorem dX1_decide_15 : decode cX1_decide 15 = .ok (.iload_n 1, 1) := by decide +kernel
theorem dX1_decide_16 : decode cX1_decide 16 = .ok (.iconst 1, 1) := by decide +kernel
theorem dX1_decide_17 : decode cX1_decide 17 = .ok (.iadd, 1) := by decide +kernel
theorem dX1_decide_18 : decode cX1_decide 18 = .ok (.aaload, 1) := by decide +kernel
theorem dX1_decide_19 : decode cX1_decide 19 = .ok (.iload_n 2, 1) := by decide +kernel
theorem dX1_decide_20 : decode cX1_decide 20 = .ok (.iaload, 1) := by decide +kernel
theorem dX1_decide_21 : decode cX1_decide 21 = .ok (.istore 4, 2) := by decide +kernel
theorem dX1_decide_23 : decode cX1_decide 23 = .ok (.iload_n 2, 1) := by decide +kernel
theorem dX1_decide_24 : decode cX1_decide 24 = .ok (.aload_n 0, 1) := by decide +kernel
theorem dX1_decide_25 : decode cX1_decide 25 = .ok (.getfield 15, 3) := by decide +kernel
theorem dX1_decide_28 : decode cX1_decide 28 = .ok (.iload_n 1, 1) := by decide +kernel
theorem dX1_decide_29 : decode cX1_decide 29 = .ok (.iaload, 1) := by decide +kernel
theorem dX1_decide_30 : decode cX1_decide 30 = .ok (.invokestatic 76, 3) := by decide +kernel
theorem dX1_decide_33 : decode cX1_decide 33 = .ok (.istore 5, 2) := by decide +kernel
theorem dX1_decide_35 : decode cX1_decide 35 = .ok (.iconst 2, 1) := by decide +kernel
theorem dX1_decide_36 : decode cX1_decide 36 = .ok (.istore 6, 2) := by decide +kernel
theorem dX1_decide_38 : decode cX1_decide 38 = .ok (.iload 6, 2) := by decide +kernel
theorem dX1_decide_40 : decode cX1_decide 40 = .ok (.iload 5, 2) := by decide +kernel
theorem dX1_decide_42 : decode cX1_decide 42 = .ok (.if_icmp .gt 88, 3) := by decide +kernel
theorem dX1_decide_45 : decode cX1_decide 45 = .ok (.aload_n 0, 1) := by decide +kernel
theorem dX1_decide_46 : decode cX1_decide 46 = .ok (.getfield 27, 3) := by decide +kernel
theorem dX1_decide_49 : decode cX1_decide 49 = .ok (.iload_n 1, 1) := by decide +kernel
theorem dX1_decide_50 : decode cX1_decide 50 = .ok (.iconst 1, 1) := by decide +kernel
theorem dX1_decide_51 : decode cX1_decide 51 = .ok (.iadd, 1) := by decide +kernel
theorem dX1_decide_52 : decode cX1_decide 52 = .ok (.aaload, 1) := by decide +kernel
theorem dX1_decide_53 : decode cX1_decide 53 = .ok (.iload_n 2, 1) := by decide +kernel
theorem dX1_decide_54 : decode cX1_decide 54 = .ok (.iload 6, 2) := by decide +kernel
theorem dX1_decide_56 : decode cX1_decide 56 = .ok (.isub, 1) := by decide +kernel
theorem dX1_decide_57 : decode cX1_decide 57 = .ok (.iaload, 1) := by decide +kernel
theorem dX1_decide_58 : decode cX1_decide 58 = .ok (.istore 7, 2) := by decide +kernel
theorem dX1_decide_60 : decode cX1_decide 60 = .ok (.iload 7, 2) := by decide +kernel
theorem dX1_decide_62 : decode cX1_decide 62 = .ok (.bipush 13, 2) := by decide +kernel
theorem dX1_decide_64 : decode cX1_decide 64 = .ok (.if_icmp .ge 60, 3) := by decide +kernel
theorem dX1_decide_67 : decode cX1_decide 67 = .ok (.iload 7, 2) := by decide +kernel
theorem dX1_decide_69 : decode cX1_decide 69 = .ok (.iconst 1, 1) := by decide +kernel
theorem dX1_decide_70 : decode cX1_decide 70 = .ok (.iadd, 1) := by decide +kernel
theorem dX1_decide_71 : decode cX1_decide 71 = .ok (.istore 8, 2) := by decide +kernel
theorem dX1_decide_73 : decode cX1_decide 73 = .ok (.aload_n 0, 1) := by decide +kernel
theorem dX1_decide_74 : decode cX1_decide 74 = .ok (.getfield 30, 3) := by decide +kernel
theorem dX1_decide_77 : decode cX1_decide 77 = .ok (.iload_n 1, 1) := by decide +kernel
theorem dX1_decide_78 : decode cX1_decide 78 = .ok (.iconst 1, 1) := by decide +kernel
theorem dX1_decide_79 : decode cX1_decide 79 = .ok (.iadd, 1) := by decide +kernel
theorem dX1_decide_80 : decode cX1_decide 80 = .ok (.aaload, 1) := by decide +kernel
theorem dX1_decide_81 : decode cX1_decide 81 = .ok (.iload_n 2, 1) := by decide +kernel
theorem dX1_decide_82 : decode cX1_decide 82 = .ok (.iload 6, 2) := by decide +kernel
theorem dX1_decide_84 : decode cX1_decide 84 = .ok (.isub, 1) := by decide +kernel
theorem dX1_decide_85 : decode cX1_decide 85 = .ok (.iaload, 1) := by decide +kernel
theorem dX1_decide_86 : decode cX1_decide 86 = .ok (.aload_n 0, 1) := by decide +kernel
theorem dX1_decide_87 : decode cX1_decide 87 = .ok (.getfield 24, 3) := by decide +kernel
theorem dX1_decide_90 : decode cX1_decide 90 = .ok (.iload_n 1, 1) := by decide +kernel
theorem dX1_decide_91 : decode cX1_decide 91 = .ok (.aaload, 1) := by decide +kernel
theorem dX1_decide_92 : decode cX1_decide 92 = .ok (.iload 6, 2) := by decide +kernel
theorem dX1_decide_94 : decode cX1_decide 94 = .ok (.iaload, 1) := by decide +kernel
theorem dX1_decide_95 : decode cX1_decide 95 = .ok (.iadd, 1) := by decide +kernel
theorem dX1_decide_96 : decode cX1_decide 96 = .ok (.istore 9, 2) := by decide +kernel
theorem dX1_decide_98 : decode cX1_decide 98 = .ok (.iload 8, 2) := by decide +kernel
theorem dX1_decide_100 : decode cX1_decide 100 = .ok (.iload_n 3, 1) := by decide +kernel
theorem dX1_decide_101 : decode cX1_decide 101 = .ok (.if_icmp .lt 16, 3) := by decide +kernel
theorem dX1_decide_104 : decode cX1_decide 104 = .ok (.iload 8, 2) := by decide +kernel
theorem dX1_decide_106 : decode cX1_decide 106 = .ok (.iload_n 3, 1) := by decide +kernel
theorem dX1_decide_107 : decode cX1_decide 107 = .ok (.if_icmp .ne 17, 3) := by decide +kernel
theorem dX1_decide_110 : decode cX1_decide 110 = .ok (.iload 9, 2) := by decide +kernel
theorem dX1_decide_112 : decode cX1_decide 112 = .ok (.iload 4, 2) := by decide +kernel
theorem dX1_decide_114 : decode cX1_decide 114 = .ok (.if_icmp .le 10, 3) := by decide +kernel
theorem dX1_decide_117 : decode cX1_decide 117 = .ok (.iload 8, 2) := by decide +kernel
theorem dX1_decide_119 : decode cX1_decide 119 = .ok (.istore_n 3, 1) := by decide +kernel
theorem dX1_decide_120 : decode cX1_decide 120 = .ok (.iload 9, 2) := by decide +kernel
theorem dX1_decide_122 : decode cX1_decide 122 = .ok (.istore 4, 2) := by decide +kernel
theorem dX1_decide_124 : decode cX1_decide 124 = .ok (.iinc 6 1, 3) := by decide +kernel
theorem dX1_decide_127 : decode cX1_decide 127 = .ok (.goto (-89), 3) := by decide +kernel
theorem dX1_decide_130 : decode cX1_decide 130 = .ok (.aload_n 0, 1) := by decide +kernel
theorem dX1_decide_131 : decode cX1_decide 131 = .ok (.getfield 27, 3) := by decide +kernel
theorem dX1_decide_134 : decode cX1_decide 134 = .ok (.iload_n 1, 1) := by decide +kernel
theorem dX1_decide_135 : decode cX1_decide 135 = .ok (.aaload, 1) := by decide +kernel
theorem dX1_decide_136 : decode cX1_decide 136 = .ok (.iload_n 2, 1) := by decide +kernel
theorem dX1_decide_137 : decode cX1_decide 137 = .ok (.iload_n 3, 1) := by decide +kernel
theorem dX1_decide_138 : decode cX1_decide 138 = .ok (.iastore, 1) := by decide +kernel
theorem dX1_decide_139 : decode cX1_decide 139 = .ok (.aload_n 0, 1) := by decide +kernel
theorem dX1_decide_140 : decode cX1_decide 140 = .ok (.getfield 30, 3) := by decide +kernel
theorem dX1_decide_143 : decode cX1_decide 143 = .ok (.iload_n 1, 1) := by decide +kernel
theorem dX1_decide_144 : decode cX1_decide 144 = .ok (.aaload, 1) := by decide +kernel
theorem dX1_decide_145 : decode cX1_decide 145 = .ok (.iload_n 2, 1) := by decide +kernel
theorem dX1_decide_146 : decode cX1_decide 146 = .ok (.iload 4, 2) := by decide +kernel
theorem dX1_decide_148 : decode cX1_decide 148 = .ok (.iastore, 1) := by decide +kernel
theorem dX1_decide_149 : decode cX1_decide 149 = .ok (.return_, 1) := by decide +kernel
theorem dX1_takeFromRows_0 : decode cX1_takeFromRows 0 = .ok (.iload_n 1, 1) := by decide +kernel
theorem dX1_takeFromRows_1 : decode cX1_takeFromRows 1 = .ok (.istore_n 2, 1) := by decide +kernel
theorem dX1_takeFromRows_2 : decode cX1_takeFromRows 2 = .ok (.iconst 0, 1) := by decide +kernel
theorem dX1_takeFromRows_3 : decode cX1_takeFromRows 3 = .ok (.istore_n 3, 1) := by decide +kernel
theorem dX1_takeFromRows_4 : decode cX1_takeFromRows 4 = .ok (.iload_n 3, 1) := by decide +kernel
theorem dX1_takeFromRows_5 : decode cX1_takeFromRows 5 = .ok (.aload_n 0, 1) := by decide +kernel
theorem dX1_takeFromRows_6 : decode cX1_takeFromRows 6 = .ok (.getfield 9, 3) := by decide +kernel
theorem dX1_takeFromRows_9 : decode cX1_takeFromRows 9 = .ok (.invokevirtual 50, 3) := by decide +kernel
theorem dX1_takeFromRows_12 : decode cX1_takeFromRows 12 = .ok (.if_icmp .ge 30, 3) := by decide +kernel
theorem dX1_takeFromRows_15 : decode cX1_takeFromRows 15 = .ok (.aload_n 0, 1) := by decide +kernel
theorem dX1_takeFromRows_16 : decode cX1_takeFromRows 16 = .ok (.getfield 33, 3) := by decide +kernel
theorem dX1_takeFromRows_19 : decode cX1_takeFromRows 19 = .ok (.iload_n 3, 1) := by decide +kernel
theorem dX1_takeFromRows_20 : decode cX1_takeFromRows 20 = .ok (.aload_n 0, 1) := by decide +kernel
theorem dX1_takeFromRows_21 : decode cX1_takeFromRows 21 = .ok (.iload_n 3, 1) := by decide +kernel
theorem dX1_takeFromRows_22 : decode cX1_takeFromRows 22 = .ok (.iload_n 2, 1) := by decide +kernel
theorem dX1_takeFromRows_23 : decode cX1_takeFromRows 23 = .ok (.invokevirtual 82, 3) := by decide +kernel
theorem dX1_takeFromRows_26 : decode cX1_takeFromRows 26 = .ok (.iastore, 1) := by decide +kernel
theorem dX1_takeFromRows_27 : decode cX1_takeFromRows 27 = .ok (.iload_n 2, 1) := by decide +kernel
theorem dX1_takeFromRows_28 : decode cX1_takeFromRows 28 = .ok (.aload_n 0, 1) := by decide +kernel
theorem dX1_takeFromRows_29 : decode cX1_takeFromRows 29 = .ok (.getfield 33, 3) := by decide +kernel
theorem dX1_takeFromRows_32 : decode cX1_takeFromRows 32 = .ok (.iload_n 3, 1) := by decide +kernel
theorem dX1_takeFromRows_33 : decode cX1_takeFromRows 33 = .ok (.iaload, 1) := by decide +kernel
theorem dX1_takeFromRows_34 : decode cX1_takeFromRows 34 = .ok (.isub, 1) := by decide +kernel
theorem dX1_takeFromRows_35 : decode cX1_takeFromRows 35 = .ok (.istore_n 2, 1) := by decide +kernel
theorem dX1_takeFromRows_36 : decode cX1_takeFromRows 36 = .ok (.iinc 3 1, 3) := by decide +kernel
theorem dX1_takeFromRows_39 : decode cX1_takeFromRows 39 = .ok (.goto (-35), 3) := by decide +kernel
theorem dX1_takeFromRows_42 : decode cX1_takeFromRows 42 = .ok (.return_, 1) := by decide +kernel
theorem dX1_mostSeats_0 : decode cX1_mostSeats 0 = .ok (.iload_n 2, 1) := by decide +kernel
theorem dX1_mostSeats_1 : decode cX1_mostSeats 1 = .ok (.aload_n 0, 1) := by decide +kernel
theorem dX1_mostSeats_2 : decode cX1_mostSeats 2 = .ok (.getfield 15, 3) := by decide +kernel
theorem dX1_mostSeats_5 : decode cX1_mostSeats 5 = .ok (.iload_n 1, 1) := by decide +kernel
theorem dX1_mostSeats_6 : decode cX1_mostSeats 6 = .ok (.iaload, 1) := by decide +kernel
theorem dX1_mostSeats_7 : decode cX1_mostSeats 7 = .ok (.invokestatic 76, 3) := by decide +kernel
theorem dX1_mostSeats_10 : decode cX1_mostSeats 10 = .ok (.istore_n 3, 1) := by decide +kernel
theorem dX1_mostSeats_11 : decode cX1_mostSeats 11 = .ok (.iload_n 3, 1) := by decide +kernel
theorem dX1_mostSeats_12 : decode cX1_mostSeats 12 = .ok (.iconst 2, 1) := by decide +kernel
theorem dX1_mostSeats_13 : decode cX1_mostSeats 13 = .ok (.if_icmp .lt 21, 3) := by decide +kernel
theorem dX1_mostSeats_16 : decode cX1_mostSeats 16 = .ok (.aload_n 0, 1) := by decide +kernel
theorem dX1_mostSeats_17 : decode cX1_mostSeats 17 = .ok (.iload_n 1, 1) := by decide +kernel
theorem dX1_mostSeats_18 : decode cX1_mostSeats 18 = .ok (.iload_n 2, 1) := by decide +kernel
theorem dX1_mostSeats_19 : decode cX1_mostSeats 19 = .ok (.iload_n 3, 1) := by decide +kernel
theorem dX1_mostSeats_20 : decode cX1_mostSeats 20 = .ok (.invokevirtual 85, 3) := by decide +kernel
theorem dX1_mostSeats_23 : decode cX1_mostSeats 23 = .ok (.ifCond .eq 5, 3) := by decide +kernel
theorem dX1_mostSeats_26 : decode cX1_mostSeats 26 = .ok (.iload_n 3, 1) := by decide +kernel
theorem dX1_mostSeats_27 : decode cX1_mostSeats 27 = .ok (.ireturn, 1) := by decide +kernel
theorem dX1_mostSeats_28 : decode cX1_mostSeats 28 = .ok (.iinc 3 (-1), 3) := by decide +kernel
theorem dX1_mostSeats_31 : decode cX1_mostSeats 31 = .ok (.goto (-20), 3) := by decide +kernel
theorem dX1_mostSeats_34 : decode cX1_mostSeats 34 = .ok (.iconst 0, 1) := by decide +kernel
theorem dX1_mostSeats_35 : decode cX1_mostSeats 35 = .ok (.ireturn, 1) := by decide +kernel
theorem dX1_keepsBest_0 : decode cX1_keepsBest 0 = .ok (.aload_n 0, 1) := by decide +kernel
theorem dX1_keepsBest_1 : decode cX1_keepsBest 1 = .ok (.getfield 27, 3) := by decide +kernel
theorem dX1_keepsBest_4 : decode cX1_keepsBest 4 = .ok (.iload_n 1, 1) := by decide +kernel
theorem dX1_keepsBest_5 : decode cX1_keepsBest 5 = .ok (.iconst 1, 1) := by decide +kernel
theorem dX1_keepsBest_6 : decode cX1_keepsBest 6 = .ok (.iadd, 1) := by decide +kernel
theorem dX1_keepsBest_7 : decode cX1_keepsBest 7 = .ok (.aaload, 1) := by decide +kernel
theorem dX1_keepsBest_8 : decode cX1_keepsBest 8 = .ok (.iload_n 2, 1) := by decide +kernel
theorem dX1_keepsBest_9 : decode cX1_keepsBest 9 = .ok (.iload_n 3, 1) := by decide +kernel
theorem dX1_keepsBest_10 : decode cX1_keepsBest 10 = .ok (.isub, 1) := by decide +kernel
theorem dX1_keepsBest_11 : decode cX1_keepsBest 11 = .ok (.iaload, 1) := by decide +kernel
theorem dX1_keepsBest_12 : decode cX1_keepsBest 12 = .ok (.iconst 1, 1) := by decide +kernel
theorem dX1_keepsBest_13 : decode cX1_keepsBest 13 = .ok (.iadd, 1) := by decide +kernel
theorem dX1_keepsBest_14 : decode cX1_keepsBest 14 = .ok (.aload_n 0, 1) := by decide +kernel
theorem dX1_keepsBest_15 : decode cX1_keepsBest 15 = .ok (.getfield 27, 3) := by decide +kernel
theorem dX1_keepsBest_18 : decode cX1_keepsBest 18 = .ok (.iload_n 1, 1) := by decide +kernel
theorem dX1_keepsBest_19 : decode cX1_keepsBest 19 = .ok (.aaload, 1) := by decide +kernel
theorem dX1_keepsBest_20 : decode cX1_keepsBest 20 = .ok (.iload_n 2, 1) := by decide +kernel
theorem dX1_keepsBest_21 : decode cX1_keepsBest 21 = .ok (.iaload, 1) := by decide +kernel
theorem dX1_keepsBest_22 : decode cX1_keepsBest 22 = .ok (.if_icmp .ne 39, 3) := by decide +kernel
theorem dX1_keepsBest_25 : decode cX1_keepsBest 25 = .ok (.aload_n 0, 1) := by decide +kernel
theorem dX1_keepsBest_26 : decode cX1_keepsBest 26 = .ok (.getfield 30, 3) := by decide +kernel
theorem dX1_keepsBest_29 : decode cX1_keepsBest 29 = .ok (.iload_n 1, 1) := by decide +kernel
theorem dX1_keepsBest_30 : decode cX1_keepsBest 30 = .ok (.iconst 1, 1) := by decide +kernel
theorem dX1_keepsBest_31 : decode cX1_keepsBest 31 = .ok (.iadd, 1) := by decide +kernel
theorem dX1_keepsBest_32 : decode cX1_keepsBest 32 = .ok (.aaload, 1) := by decide +kernel
theorem dX1_keepsBest_33 : decode cX1_keepsBest 33 = .ok (.iload_n 2, 1) := by decide +kernel
theorem dX1_keepsBest_34 : decode cX1_keepsBest 34 = .ok (.iload_n 3, 1) := by decide +kernel
theorem dX1_keepsBest_35 : decode cX1_keepsBest 35 = .ok (.isub, 1) := by decide +kernel
theorem dX1_keepsBest_36 : decode cX1_keepsBest 36 = .ok (.iaload, 1) := by decide +kernel
theorem dX1_keepsBest_37 : decode cX1_keepsBest 37 = .ok (.aload_n 0, 1) := by decide +kernel
theorem dX1_keepsBest_38 : decode cX1_keepsBest 38 = .ok (.getfield 24, 3) := by decide +kernel
theorem dX1_keepsBest_41 : decode cX1_keepsBest 41 = .ok (.iload_n 1, 1) := by decide +kernel
theorem dX1_keepsBest_42 : decode cX1_keepsBest 42 = .ok (.aaload, 1) := by decide +kernel
theorem dX1_keepsBest_43 : decode cX1_keepsBest 43 = .ok (.iload_n 3, 1) := by decide +kernel
theorem dX1_keepsBest_44 : decode cX1_keepsBest 44 = .ok (.iaload, 1) := by decide +kernel
theorem dX1_keepsBest_45 : decode cX1_keepsBest 45 = .ok (.iadd, 1) := by decide +kernel
theorem dX1_keepsBest_46 : decode cX1_keepsBest 46 = .ok (.aload_n 0, 1) := by decide +kernel
theorem dX1_keepsBest_47 : decode cX1_keepsBest 47 = .ok (.getfield 30, 3) := by decide +kernel
theorem dX1_keepsBest_50 : decode cX1_keepsBest 50 = .ok (.iload_n 1, 1) := by decide +kernel
theorem dX1_keepsBest_51 : decode cX1_keepsBest 51 = .ok (.aaload, 1) := by decide +kernel
theorem dX1_keepsBest_52 : decode cX1_keepsBest 52 = .ok (.iload_n 2, 1) := by decide +kernel
theorem dX1_keepsBest_53 : decode cX1_keepsBest 53 = .ok (.iaload, 1) := by decide +kernel
theorem dX1_keepsBest_54 : decode cX1_keepsBest 54 = .ok (.if_icmp .ne 7, 3) := by decide +kernel
theorem dX1_keepsBest_57 : decode cX1_keepsBest 57 = .ok (.iconst 1, 1) := by decide +kernel
theorem dX1_keepsBest_58 : decode cX1_keepsBest 58 = .ok (.goto 4, 3) := by decide +kernel
theorem dX1_keepsBest_61 : decode cX1_keepsBest 61 = .ok (.iconst 0, 1) := by decide +kernel
theorem dX1_keepsBest_62 : decode cX1_keepsBest 62 = .ok (.ireturn, 1) := by decide +kernel
end
section
theorem dX4_init_0 : decode cX4_init 0 = .ok (.aload_n 0, 1) := by decide +kernel
theorem dX4_init_1 : decode cX4_init 1 = .ok (.invokespecial 1, 3) := by decide +kernel
theorem dX4_init_4 : decode cX4_init 4 = .ok (.aload_n 0, 1) := by decide +kernel
theorem dX4_init_5 : decode cX4_init 5 = .ok (.new 7, 3) := by decide +kernel
theorem dX4_init_8 : decode cX4_init 8 = .ok (.dup, 1) := by decide +kernel
theorem dX4_init_9 : decode cX4_init 9 = .ok (.invokespecial 9, 3) := by decide +kernel
theorem dX4_init_12 : decode cX4_init 12 = .ok (.putfield 10, 3) := by decide +kernel
theorem dX4_init_15 : decode cX4_init 15 = .ok (.aload_n 0, 1) := by decide +kernel
theorem dX4_init_16 : decode cX4_init 16 = .ok (.new 16, 3) := by decide +kernel
theorem dX4_init_19 : decode cX4_init 19 = .ok (.dup, 1) := by decide +kernel
theorem dX4_init_20 : decode cX4_init 20 = .ok (.invokespecial 18, 3) := by decide +kernel
theorem dX4_init_23 : decode cX4_init 23 = .ok (.putfield 19, 3) := by decide +kernel
theorem dX4_init_26 : decode cX4_init 26 = .ok (.aload_n 0, 1) := by decide +kernel
theorem dX4_init_27 : decode cX4_init 27 = .ok (.new 23, 3) := by decide +kernel
theorem dX4_init_30 : decode cX4_init 30 = .ok (.dup, 1) := by decide +kernel
theorem dX4_init_31 : decode cX4_init 31 = .ok (.aload_n 0, 1) := by decide +kernel
theorem dX4_init_32 : decode cX4_init 32 = .ok (.getfield 10, 3) := by decide +kernel
theorem dX4_init_35 : decode cX4_init 35 = .ok (.invokespecial 25, 3) := by decide +kernel
theorem dX4_init_38 : decode cX4_init 38 = .ok (.putfield 28, 3) := by decide +kernel
theorem dX4_init_41 : decode cX4_init 41 = .ok (.aload_n 0, 1) := by decide +kernel
theorem dX4_init_42 : decode cX4_init 42 = .ok (.new 32, 3) := by decide +kernel
theorem dX4_init_45 : decode cX4_init 45 = .ok (.dup, 1) := by decide +kernel
theorem dX4_init_46 : decode cX4_init 46 = .ok (.aload_n 0, 1) := by decide +kernel
theorem dX4_init_47 : decode cX4_init 47 = .ok (.getfield 10, 3) := by decide +kernel
theorem dX4_init_50 : decode cX4_init 50 = .ok (.aload_n 0, 1) := by decide +kernel
theorem dX4_init_51 : decode cX4_init 51 = .ok (.getfield 19, 3) := by decide +kernel
theorem dX4_init_54 : decode cX4_init 54 = .ok (.invokespecial 34, 3) := by decide +kernel
theorem dX4_init_57 : decode cX4_init 57 = .ok (.putfield 37, 3) := by decide +kernel
theorem dX4_init_60 : decode cX4_init 60 = .ok (.aload_n 0, 1) := by decide +kernel
theorem dX4_init_61 : decode cX4_init 61 = .ok (.iconst 0, 1) := by decide +kernel
theorem dX4_init_62 : decode cX4_init 62 = .ok (.putfield 41, 3) := by decide +kernel
theorem dX4_init_65 : decode cX4_init 65 = .ok (.aload_n 0, 1) := by decide +kernel
theorem dX4_init_66 : decode cX4_init 66 = .ok (.iconst 0, 1) := by decide +kernel
theorem dX4_init_67 : decode cX4_init 67 = .ok (.putfield 45, 3) := by decide +kernel
theorem dX4_init_70 : decode cX4_init 70 = .ok (.return_, 1) := by decide +kernel
theorem dX4_addRow_0 : decode cX4_addRow 0 = .ok (.iload_n 1, 1) := by decide +kernel
theorem dX4_addRow_1 : decode cX4_addRow 1 = .ok (.invokestatic 48, 3) := by decide +kernel
theorem dX4_addRow_4 : decode cX4_addRow 4 = .ok (.iload_n 2, 1) := by decide +kernel
theorem dX4_addRow_5 : decode cX4_addRow 5 = .ok (.iconst 0, 1) := by decide +kernel
theorem dX4_addRow_6 : decode cX4_addRow 6 = .ok (.sipush 1000, 3) := by decide +kernel
theorem dX4_addRow_9 : decode cX4_addRow 9 = .ok (.invokestatic 52, 3) := by decide +kernel
theorem dX4_addRow_12 : decode cX4_addRow 12 = .ok (.iload_n 3, 1) := by decide +kernel
theorem dX4_addRow_13 : decode cX4_addRow 13 = .ok (.iconst 0, 1) := by decide +kernel
theorem dX4_addRow_14 : decode cX4_addRow 14 = .ok (.sipush 10000, 3) := by decide +kernel
theorem dX4_addRow_17 : decode cX4_addRow 17 = .ok (.invokestatic 52, 3) := by decide +kernel
theorem dX4_addRow_20 : decode cX4_addRow 20 = .ok (.aload_n 0, 1) := by decide +kernel
theorem dX4_addRow_21 : decode cX4_addRow 21 = .ok (.getfield 10, 3) := by decide +kernel
theorem dX4_addRow_24 : decode cX4_addRow 24 = .ok (.invokevirtual 56, 3) := by decide +kernel
theorem dX4_addRow_27 : decode cX4_addRow 27 = .ok (.bipush 12, 2) := by decide +kernel
theorem dX4_addRow_29 : decode cX4_addRow 29 = .ok (.if_icmp .lt 13, 3) := by decide +kernel
theorem dX4_addRow_32 : decode cX4_addRow 32 = .ok (.new 60, 3) := by decide +kernel
theorem dX4_addRow_35 : decode cX4_addRow 35 = .ok (.dup, 1) := by decide +kernel
theorem dX4_addRow_36 : decode cX4_addRow 36 = .ok (.ldc 62, 2) := by decide +kernel
theorem dX4_addRow_38 : decode cX4_addRow 38 = .ok (.invokespecial 64, 3) := by decide +kernel
theorem dX4_addRow_41 : decode cX4_addRow 41 = .ok (.athrow, 1) := by decide +kernel
theorem dX4_addRow_42 : decode cX4_addRow 42 = .ok (.aload_n 0, 1) := by decide +kernel
theorem dX4_addRow_43 : decode cX4_addRow 43 = .ok (.getfield 10, 3) := by decide +kernel
theorem dX4_addRow_46 : decode cX4_addRow 46 = .ok (.iload_n 1, 1) := by decide +kernel
theorem dX4_addRow_47 : decode cX4_addRow 47 = .ok (.iload_n 2, 1) := by decide +kernel
theorem dX4_addRow_48 : decode cX4_addRow 48 = .ok (.iload_n 3, 1) := by decide +kernel
theorem dX4_addRow_49 : decode cX4_addRow 49 = .ok (.invokevirtual 67, 3) := by decide +kernel
theorem dX4_addRow_52 : decode cX4_addRow 52 = .ok (.ireturn, 1) := by decide +kernel
theorem dX4_toggleBlocked_0 : decode cX4_toggleBlocked 0 = .ok (.aload_n 0, 1) := by decide +kernel
theorem dX4_toggleBlocked_1 : decode cX4_toggleBlocked 1 = .ok (.iload_n 1, 1) := by decide +kernel
theorem dX4_toggleBlocked_2 : decode cX4_toggleBlocked 2 = .ok (.iload_n 2, 1) := by decide +kernel
theorem dX4_toggleBlocked_3 : decode cX4_toggleBlocked 3 = .ok (.invokevirtual 71, 3) := by decide +kernel
theorem dX4_toggleBlocked_6 : decode cX4_toggleBlocked 6 = .ok (.aload_n 0, 1) := by decide +kernel
theorem dX4_toggleBlocked_7 : decode cX4_toggleBlocked 7 = .ok (.getfield 10, 3) := by decide +kernel
theorem dX4_toggleBlocked_10 : decode cX4_toggleBlocked 10 = .ok (.iload_n 1, 1) := by decide +kernel
theorem dX4_toggleBlocked_11 : decode cX4_toggleBlocked 11 = .ok (.iload_n 2, 1) := by decide +kernel
theorem dX4_toggleBlocked_12 : decode cX4_toggleBlocked 12 = .ok (.invokevirtual 75, 3) := by decide +kernel
theorem dX4_toggleBlocked_15 : decode cX4_toggleBlocked 15 = .ok (.istore_n 3, 1) := by decide +kernel
theorem dX4_toggleBlocked_16 : decode cX4_toggleBlocked 16 = .ok (.iload_n 3, 1) := by decide +kernel
theorem dX4_toggleBlocked_17 : decode cX4_toggleBlocked 17 = .ok (.ifCond .le 13, 3) := by decide +kernel
theorem dX4_toggleBlocked_20 : decode cX4_toggleBlocked 20 = .ok (.new 60, 3) := by decide +kernel
theorem dX4_toggleBlocked_23 : decode cX4_toggleBlocked 23 = .ok (.dup, 1) := by decide +kernel
theorem dX4_toggleBlocked_24 : decode cX4_toggleBlocked 24 = .ok (.ldc 79, 2) := by decide +kernel
theorem dX4_toggleBlocked_26 : decode cX4_toggleBlocked 26 = .ok (.invokespecial 64, 3) := by decide +kernel
theorem dX4_toggleBlocked_29 : decode cX4_toggleBlocked 29 = .ok (.athrow, 1) := by decide +kernel
theorem dX4_toggleBlocked_30 : decode cX4_toggleBlocked 30 = .ok (.iload_n 3, 1) := by decide +kernel
theorem dX4_toggleBlocked_31 : decode cX4_toggleBlocked 31 = .ok (.ifCond .ne 7, 3) := by decide +kernel
theorem dX4_toggleBlocked_34 : decode cX4_toggleBlocked 34 = .ok (.iconst 1, 1) := by decide +kernel
theorem dX4_toggleBlocked_35 : decode cX4_toggleBlocked 35 = .ok (.goto 4, 3) := by decide +kernel
theorem dX4_toggleBlocked_38 : decode cX4_toggleBlocked 38 = .ok (.iconst 0, 1) := by decide +kernel
theorem dX4_toggleBlocked_39 : decode cX4_toggleBlocked 39 = .ok (.istore 4, 2) := by decide +kernel
theorem dX4_toggleBlocked_41 : decode cX4_toggleBlocked 41 = .ok (.aload_n 0, 1) := by decide +kernel
theorem dX4_toggleBlocked_42 : decode cX4_toggleBlocked 42 = .ok (.getfield 10, 3) := by decide +kernel
theorem dX4_toggleBlocked_45 : decode cX4_toggleBlocked 45 = .ok (.iload_n 1, 1) := by decide +kernel
theorem dX4_toggleBlocked_46 : decode cX4_toggleBlocked 46 = .ok (.iload_n 2, 1) := by decide +kernel
theorem dX4_toggleBlocked_47 : decode cX4_toggleBlocked 47 = .ok (.iconst 1, 1) := by decide +kernel
theorem dX4_toggleBlocked_48 : decode cX4_toggleBlocked 48 = .ok (.iload 4, 2) := by decide +kernel
theorem dX4_toggleBlocked_50 : decode cX4_toggleBlocked 50 = .ok (.ifCond .eq 7, 3) := by decide +kernel
theorem dX4_toggleBlocked_53 : decode cX4_toggleBlocked 53 = .ok (.iconst (-1), 1) := by decide +kernel
theorem dX4_toggleBlocked_54 : decode cX4_toggleBlocked 54 = .ok (.goto 4, 3) := by decide +kernel
theorem dX4_toggleBlocked_57 : decode cX4_toggleBlocked 57 = .ok (.iconst 0, 1) := by decide +kernel
theorem dX4_toggleBlocked_58 : decode cX4_toggleBlocked 58 = .ok (.invokevirtual 81, 3) := by decide +kernel
theorem dX4_toggleBlocked_61 : decode cX4_toggleBlocked 61 = .ok (.iload 4, 2) := by decide +kernel
theorem dX4_toggleBlocked_63 : decode cX4_toggleBlocked 63 = .ok (.ireturn, 1) := by decide +kernel
theorem dX4_rows_0 : decode cX4_rows 0 = .ok (.aload_n 0, 1) := by decide +kernel
theorem dX4_rows_1 : decode cX4_rows 1 = .ok (.getfield 10, 3) := by decide +kernel
theorem dX4_rows_4 : decode cX4_rows 4 = .ok (.invokevirtual 56, 3) := by decide +kernel
theorem dX4_rows_7 : decode cX4_rows 7 = .ok (.ireturn, 1) := by decide +kernel
theorem dX4_state_0 : decode cX4_state 0 = .ok (.aload_n 0, 1) := by decide +kernel
theorem dX4_state_1 : decode cX4_state 1 = .ok (.iload_n 1, 1) := by decide +kernel
theorem dX4_state_2 : decode cX4_state 2 = .ok (.iload_n 2, 1) := by decide +kernel
theorem dX4_state_3 : decode cX4_state 3 = .ok (.invokevirtual 71, 3) := by decide +kernel
theorem dX4_state_6 : decode cX4_state 6 = .ok (.aload_n 0, 1) := by decide +kernel
theorem dX4_state_7 : decode cX4_state 7 = .ok (.getfield 10, 3) := by decide +kernel
theorem dX4_state_10 : decode cX4_state 10 = .ok (.iload_n 1, 1) := by decide +kernel
theorem dX4_state_11 : decode cX4_state 11 = .ok (.iload_n 2, 1) := by decide +kernel
theorem dX4_state_12 : decode cX4_state 12 = .ok (.invokevirtual 75, 3) := by decide +kernel
theorem dX4_state_15 : decode cX4_state 15 = .ok (.istore_n 3, 1) := by decide +kernel
theorem dX4_state_16 : decode cX4_state 16 = .ok (.iload_n 3, 1) := by decide +kernel
theorem dX4_state_17 : decode cX4_state 17 = .ok (.ifCond .ne 5, 3) := by decide +kernel
theorem dX4_state_20 : decode cX4_state 20 = .ok (.iconst 0, 1) := by decide +kernel
theorem dX4_state_21 : decode cX4_state 21 = .ok (.ireturn, 1) := by decide +kernel
theorem dX4_state_22 : decode cX4_state 22 = .ok (.iload_n 3, 1) := by decide +kernel
theorem dX4_state_23 : decode cX4_state 23 = .ok (.iconst (-1), 1) := by decide +kernel
theorem dX4_state_24 : decode cX4_state 24 = .ok (.if_icmp .ne 5, 3) := by decide +kernel
theorem dX4_state_27 : decode cX4_state 27 = .ok (.iconst 3, 1) := by decide +kernel
theorem dX4_state_28 : decode cX4_state 28 = .ok (.ireturn, 1) := by decide +kernel
theorem dX4_state_29 : decode cX4_state 29 = .ok (.aload_n 0, 1) := by decide +kernel
theorem dX4_state_30 : decode cX4_state 30 = .ok (.getfield 19, 3) := by decide +kernel
theorem dX4_state_33 : decode cX4_state 33 = .ok (.iload_n 3, 1) := by decide +kernel
theorem dX4_state_34 : decode cX4_state 34 = .ok (.invokevirtual 85, 3) := by decide +kernel
theorem dX4_state_37 : decode cX4_state 37 = .ok (.ifCond .ne 7, 3) := by decide +kernel
theorem dX4_state_40 : decode cX4_state 40 = .ok (.iconst 1, 1) := by decide +kernel
theorem dX4_state_41 : decode cX4_state 41 = .ok (.goto 4, 3) := by decide +kernel
theorem dX4_state_44 : decode cX4_state 44 = .ok (.iconst 2, 1) := by decide +kernel
theorem dX4_state_45 : decode cX4_state 45 = .ok (.ireturn, 1) := by decide +kernel
theorem dX4_ticketAt_0 : decode cX4_ticketAt 0 = .ok (.aload_n 0, 1) := by decide +kernel
theorem dX4_ticketAt_1 : decode cX4_ticketAt 1 = .ok (.iload_n 1, 1) := by decide +kernel
theorem dX4_ticketAt_2 : decode cX4_ticketAt 2 = .ok (.iload_n 2, 1) := by decide +kernel
theorem dX4_ticketAt_3 : decode cX4_ticketAt 3 = .ok (.invokevirtual 71, 3) := by decide +kernel
theorem dX4_ticketAt_6 : decode cX4_ticketAt 6 = .ok (.aload_n 0, 1) := by decide +kernel
theorem dX4_ticketAt_7 : decode cX4_ticketAt 7 = .ok (.getfield 10, 3) := by decide +kernel
theorem dX4_ticketAt_10 : decode cX4_ticketAt 10 = .ok (.iload_n 1, 1) := by decide +kernel
theorem dX4_ticketAt_11 : decode cX4_ticketAt 11 = .ok (.iload_n 2, 1) := by decide +kernel
theorem dX4_ticketAt_12 : decode cX4_ticketAt 12 = .ok (.invokevirtual 75, 3) := by decide +kernel
theorem dX4_ticketAt_15 : decode cX4_ticketAt 15 = .ok (.iconst 0, 1) := by decide +kernel
theorem dX4_ticketAt_16 : decode cX4_ticketAt 16 = .ok (.invokestatic 89, 3) := by decide +kernel
theorem dX4_ticketAt_19 : decode cX4_ticketAt 19 = .ok (.ireturn, 1) := by decide +kernel
theorem dX4_value_0 : decode cX4_value 0 = .ok (.aload_n 0, 1) := by decide +kernel
theorem dX4_value_1 : decode cX4_value 1 = .ok (.iload_n 1, 1) := by decide +kernel
theorem dX4_value_2 : decode cX4_value 2 = .ok (.iload_n 2, 1) := by decide +kernel
theorem dX4_value_3 : decode cX4_value 3 = .ok (.invokevirtual 71, 3) := by decide +kernel
theorem dX4_value_6 : decode cX4_value 6 = .ok (.aload_n 0, 1) := by decide +kernel
theorem dX4_value_7 : decode cX4_value 7 = .ok (.getfield 10, 3) := by decide +kernel
theorem dX4_value_10 : decode cX4_value 10 = .ok (.iload_n 1, 1) := by decide +kernel
theorem dX4_value_11 : decode cX4_value 11 = .ok (.iload_n 2, 1) := by decide +kernel
theorem dX4_value_12 : decode cX4_value 12 = .ok (.invokevirtual 94, 3) := by decide +kernel
theorem dX4_value_15 : decode cX4_value 15 = .ok (.ireturn, 1) := by decide +kernel
theorem dX4_freeSeats_0 : decode cX4_freeSeats 0 = .ok (.aload_n 0, 1) := by decide +kernel
theorem dX4_freeSeats_1 : decode cX4_freeSeats 1 = .ok (.iload_n 1, 1) := by decide +kernel
theorem dX4_freeSeats_2 : decode cX4_freeSeats 2 = .ok (.invokevirtual 97, 3) := by decide +kernel
theorem dX4_freeSeats_5 : decode cX4_freeSeats 5 = .ok (.aload_n 0, 1) := by decide +kernel
theorem dX4_freeSeats_6 : decode cX4_freeSeats 6 = .ok (.getfield 10, 3) := by decide +kernel
theorem dX4_freeSeats_9 : decode cX4_freeSeats 9 = .ok (.iload_n 1, 1) := by decide +kernel
theorem dX4_freeSeats_10 : decode cX4_freeSeats 10 = .ok (.invokevirtual 100, 3) := by decide +kernel
theorem dX4_freeSeats_13 : decode cX4_freeSeats 13 = .ok (.ireturn, 1) := by decide +kernel
theorem dX4_orphans_0 : decode cX4_orphans 0 = .ok (.aload_n 0, 1) := by decide +kernel
theorem dX4_orphans_1 : decode cX4_orphans 1 = .ok (.getfield 10, 3) := by decide +kernel
theorem dX4_orphans_4 : decode cX4_orphans 4 = .ok (.invokevirtual 103, 3) := by decide +kernel
theorem dX4_orphans_7 : decode cX4_orphans 7 = .ok (.ireturn, 1) := by decide +kernel
theorem dX4_longestBlock_0 : decode cX4_longestBlock 0 = .ok (.aload_n 0, 1) := by decide +kernel
theorem dX4_longestBlock_1 : decode cX4_longestBlock 1 = .ok (.getfield 10, 3) := by decide +kernel
theorem dX4_longestBlock_4 : decode cX4_longestBlock 4 = .ok (.invokevirtual 106, 3) := by decide +kernel
theorem dX4_longestBlock_7 : decode cX4_longestBlock 7 = .ok (.ireturn, 1) := by decide +kernel
theorem dX4_bestBlock_0 : decode cX4_bestBlock 0 = .ok (.iload_n 1, 1) := by decide +kernel
theorem dX4_bestBlock_1 : decode cX4_bestBlock 1 = .ok (.invokestatic 48, 3) := by decide +kernel
theorem dX4_bestBlock_4 : decode cX4_bestBlock 4 = .ok (.aload_n 0, 1) := by decide +kernel
theorem dX4_bestBlock_5 : decode cX4_bestBlock 5 = .ok (.iload_n 1, 1) := by decide +kernel
theorem dX4_bestBlock_6 : decode cX4_bestBlock 6 = .ok (.invokevirtual 109, 3) := by decide +kernel
theorem dX4_bestBlock_9 : decode cX4_bestBlock 9 = .ok (.ireturn, 1) := by decide +kernel
theorem dX4_leavesOrphan_0 : decode cX4_leavesOrphan 0 = .ok (.iload_n 1, 1) := by decide +kernel
theorem dX4_leavesOrphan_1 : decode cX4_leavesOrphan 1 = .ok (.invokestatic 48, 3) := by decide +kernel
theorem dX4_leavesOrphan_4 : decode cX4_leavesOrphan 4 = .ok (.aload_n 0, 1) := by decide +kernel
theorem dX4_leavesOrphan_5 : decode cX4_leavesOrphan 5 = .ok (.iload_n 1, 1) := by decide +kernel
theorem dX4_leavesOrphan_6 : decode cX4_leavesOrphan 6 = .ok (.invokevirtual 109, 3) := by decide +kernel
theorem dX4_leavesOrphan_9 : decode cX4_leavesOrphan 9 = .ok (.istore_n 2, 1) := by decide +kernel
theorem dX4_leavesOrphan_10 : decode cX4_leavesOrphan 10 = .ok (.aload_n 0, 1) := by decide +kernel
theorem dX4_leavesOrphan_11 : decode cX4_leavesOrphan 11 = .ok (.getfield 10, 3) := by decide +kernel
theorem dX4_leavesOrphan_14 : decode cX4_leavesOrphan 14 = .ok (.iload_n 2, 1) := by decide +kernel
theorem dX4_leavesOrphan_15 : decode cX4_leavesOrphan 15 = .ok (.bipush 100, 2) := by decide +kernel
theorem dX4_leavesOrphan_17 : decode cX4_leavesOrphan 17 = .ok (.idiv, 1) := by decide +kernel
theorem dX4_leavesOrphan_18 : decode cX4_leavesOrphan 18 = .ok (.iload_n 2, 1) := by decide +kernel
theorem dX4_leavesOrphan_19 : decode cX4_leavesOrphan 19 = .ok (.bipush 100, 2) := by decide +kernel
theorem dX4_leavesOrphan_21 : decode cX4_leavesOrphan 21 = .ok (.irem, 1) := by decide +kernel
theorem dX4_leavesOrphan_22 : decode cX4_leavesOrphan 22 = .ok (.iload_n 1, 1) := by decide +kernel
theorem dX4_leavesOrphan_23 : decode cX4_leavesOrphan 23 = .ok (.invokevirtual 112, 3) := by decide +kernel
theorem dX4_leavesOrphan_26 : decode cX4_leavesOrphan 26 = .ok (.ireturn, 1) := by decide +kernel
theorem dX4_hold_0 : decode cX4_hold 0 = .ok (.iload_n 1, 1) := by decide +kernel
theorem dX4_hold_1 : decode cX4_hold 1 = .ok (.invokestatic 48, 3) := by decide +kernel
theorem dX4_hold_4 : decode cX4_hold 4 = .ok (.iload_n 2, 1) := by decide +kernel
theorem dX4_hold_5 : decode cX4_hold 5 = .ok (.invokestatic 116, 3) := by decide +kernel
theorem dX4_hold_8 : decode cX4_hold 8 = .ok (.aload_n 0, 1) := by decide +kernel
theorem dX4_hold_9 : decode cX4_hold 9 = .ok (.iload_n 1, 1) := by decide +kernel
theorem dX4_hold_10 : decode cX4_hold 10 = .ok (.invokevirtual 109, 3) := by decide +kernel
theorem dX4_hold_13 : decode cX4_hold 13 = .ok (.istore_n 3, 1) := by decide +kernel
theorem dX4_hold_14 : decode cX4_hold 14 = .ok (.aload_n 0, 1) := by decide +kernel
theorem dX4_hold_15 : decode cX4_hold 15 = .ok (.invokevirtual 119, 3) := by decide +kernel
theorem dX4_hold_18 : decode cX4_hold 18 = .ok (.aload_n 0, 1) := by decide +kernel
theorem dX4_hold_19 : decode cX4_hold 19 = .ok (.iload_n 3, 1) := by decide +kernel
theorem dX4_hold_20 : decode cX4_hold 20 = .ok (.bipush 100, 2) := by decide +kernel
theorem dX4_hold_22 : decode cX4_hold 22 = .ok (.idiv, 1) := by decide +kernel
theorem dX4_hold_23 : decode cX4_hold 23 = .ok (.iload_n 3, 1) := by decide +kernel
theorem dX4_hold_24 : decode cX4_hold 24 = .ok (.bipush 100, 2) := by decide +kernel
theorem dX4_hold_26 : decode cX4_hold 26 = .ok (.irem, 1) := by decide +kernel
theorem dX4_hold_27 : decode cX4_hold 27 = .ok (.iload_n 1, 1) := by decide +kernel
theorem dX4_hold_28 : decode cX4_hold 28 = .ok (.iload_n 2, 1) := by decide +kernel
theorem dX4_hold_29 : decode cX4_hold 29 = .ok (.invokevirtual 122, 3) := by decide +kernel
theorem dX4_hold_32 : decode cX4_hold 32 = .ok (.ireturn, 1) := by decide +kernel
theorem dX4_holdAt_0 : decode cX4_holdAt 0 = .ok (.aload_n 0, 1) := by decide +kernel
theorem dX4_holdAt_1 : decode cX4_holdAt 1 = .ok (.iload_n 1, 1) := by decide +kernel
theorem dX4_holdAt_2 : decode cX4_holdAt 2 = .ok (.iload_n 2, 1) := by decide +kernel
theorem dX4_holdAt_3 : decode cX4_holdAt 3 = .ok (.invokevirtual 71, 3) := by decide +kernel
theorem dX4_holdAt_6 : decode cX4_holdAt 6 = .ok (.iload_n 3, 1) := by decide +kernel
theorem dX4_holdAt_7 : decode cX4_holdAt 7 = .ok (.invokestatic 48, 3) := by decide +kernel
theorem dX4_holdAt_10 : decode cX4_holdAt 10 = .ok (.iload 4, 2) := by decide +kernel
theorem dX4_holdAt_12 : decode cX4_holdAt 12 = .ok (.invokestatic 116, 3) := by decide +kernel
theorem dX4_holdAt_15 : decode cX4_holdAt 15 = .ok (.aload_n 0, 1) := by decide +kernel
theorem dX4_holdAt_16 : decode cX4_holdAt 16 = .ok (.getfield 10, 3) := by decide +kernel
theorem dX4_holdAt_19 : decode cX4_holdAt 19 = .ok (.iload_n 1, 1) := by decide +kernel
theorem dX4_holdAt_20 : decode cX4_holdAt 20 = .ok (.iload_n 2, 1) := by decide +kernel
theorem dX4_holdAt_21 : decode cX4_holdAt 21 = .ok (.iload_n 3, 1) := by decide +kernel
theorem dX4_holdAt_22 : decode cX4_holdAt 22 = .ok (.invokevirtual 126, 3) := by decide +kernel
theorem dX4_holdAt_25 : decode cX4_holdAt 25 = .ok (.ifCond .ne 13, 3) := by decide +kernel
theorem dX4_holdAt_28 : decode cX4_holdAt 28 = .ok (.new 60, 3) := by decide +kernel
theorem dX4_holdAt_31 : decode cX4_holdAt 31 = .ok (.dup, 1) := by decide +kernel
theorem dX4_holdAt_32 : decode cX4_holdAt 32 = .ok (.ldc 129, 2) := by decide +kernel
theorem dX4_holdAt_34 : decode cX4_holdAt 34 = .ok (.invokespecial 64, 3) := by decide +kernel
theorem dX4_holdAt_37 : decode cX4_holdAt 37 = .ok (.athrow, 1) := by decide +kernel
theorem dX4_holdAt_38 : decode cX4_holdAt 38 = .ok (.aload_n 0, 1) := by decide +kernel
theorem dX4_holdAt_39 : decode cX4_holdAt 39 = .ok (.invokevirtual 119, 3) := by decide +kernel
theorem dX4_holdAt_42 : decode cX4_holdAt 42 = .ok (.aload_n 0, 1) := by decide +kernel
theorem dX4_holdAt_43 : decode cX4_holdAt 43 = .ok (.iload_n 1, 1) := by decide +kernel
theorem dX4_holdAt_44 : decode cX4_holdAt 44 = .ok (.iload_n 2, 1) := by decide +kernel
theorem dX4_holdAt_45 : decode cX4_holdAt 45 = .ok (.iload_n 3, 1) := by decide +kernel
theorem dX4_holdAt_46 : decode cX4_holdAt 46 = .ok (.iload 4, 2) := by decide +kernel
theorem dX4_holdAt_48 : decode cX4_holdAt 48 = .ok (.invokevirtual 122, 3) := by decide +kernel
theorem dX4_holdAt_51 : decode cX4_holdAt 51 = .ok (.ireturn, 1) := by decide +kernel
theorem dX4_rowsForGroup_0 : decode cX4_rowsForGroup 0 = .ok (.iload_n 1, 1) := by decide +kernel
theorem dX4_rowsForGroup_1 : decode cX4_rowsForGroup 1 = .ok (.invokestatic 131, 3) := by decide +kernel
theorem dX4_rowsForGroup_4 : decode cX4_rowsForGroup 4 = .ok (.aload_n 0, 1) := by decide +kernel
theorem dX4_rowsForGroup_5 : decode cX4_rowsForGroup 5 = .ok (.iload_n 1, 1) := by decide +kernel
theorem dX4_rowsForGroup_6 : decode cX4_rowsForGroup 6 = .ok (.invokevirtual 134, 3) := by decide +kernel
theorem dX4_rowsForGroup_9 : decode cX4_rowsForGroup 9 = .ok (.aload_n 0, 1) := by decide +kernel
theorem dX4_rowsForGroup_10 : decode cX4_rowsForGroup 10 = .ok (.getfield 28, 3) := by decide +kernel
theorem dX4_rowsForGroup_13 : decode cX4_rowsForGroup 13 = .ok (.invokevirtual 137, 3) := by decide +kernel
theorem dX4_rowsForGroup_16 : decode cX4_rowsForGroup 16 = .ok (.ireturn, 1) := by decide +kernel
theorem dX4_seatsForGroup_0 : decode cX4_seatsForGroup 0 = .ok (.aload_n 0, 1) := by decide +kernel
theorem dX4_seatsForGroup_1 : decode cX4_seatsForGroup 1 = .ok (.iload_n 2, 1) := by decide +kernel
theorem dX4_seatsForGroup_2 : decode cX4_seatsForGroup 2 = .ok (.invokevirtual 97, 3) := by decide +kernel
theorem dX4_seatsForGroup_5 : decode cX4_seatsForGroup 5 = .ok (.iload_n 1, 1) := by decide +kernel
theorem dX4_seatsForGroup_6 : decode cX4_seatsForGroup 6 = .ok (.invokestatic 131, 3) := by decide +kernel
theorem dX4_seatsForGroup_9 : decode cX4_seatsForGroup 9 = .ok (.aload_n 0, 1) := by decide +kernel
theorem dX4_seatsForGroup_10 : decode cX4_seatsForGroup 10 = .ok (.iload_n 1, 1) := by decide +kernel
theorem dX4_seatsForGroup_11 : decode cX4_seatsForGroup 11 = .ok (.invokevirtual 134, 3) := by decide +kernel
theorem dX4_seatsForGroup_14 : decode cX4_seatsForGroup 14 = .ok (.aload_n 0, 1) := by decide +kernel
theorem dX4_seatsForGroup_15 : decode cX4_seatsForGroup 15 = .ok (.getfield 28, 3) := by decide +kernel
theorem dX4_seatsForGroup_18 : decode cX4_seatsForGroup 18 = .ok (.iload_n 2, 1) := by decide +kernel
theorem dX4_seatsForGroup_19 : decode cX4_seatsForGroup 19 = .ok (.invokevirtual 140, 3) := by decide +kernel
theorem dX4_seatsForGroup_22 : decode cX4_seatsForGroup 22 = .ok (.ireturn, 1) := by decide +kernel
theorem dX4_holdGroup_0 : decode cX4_holdGroup 0 = .ok (.iload_n 1, 1) := by decide +kernel
theorem dX4_holdGroup_1 : decode cX4_holdGroup 1 = .ok (.invokestatic 131, 3) := by decide +kernel
theorem dX4_holdGroup_4 : decode cX4_holdGroup 4 = .ok (.iload_n 2, 1) := by decide +kernel
theorem dX4_holdGroup_5 : decode cX4_holdGroup 5 = .ok (.invokestatic 116, 3) := by decide +kernel
theorem dX4_holdGroup_8 : decode cX4_holdGroup 8 = .ok (.aload_n 0, 1) := by decide +kernel
theorem dX4_holdGroup_9 : decode cX4_holdGroup 9 = .ok (.iload_n 1, 1) := by decide +kernel
theorem dX4_holdGroup_10 : decode cX4_holdGroup 10 = .ok (.invokevirtual 134, 3) := by decide +kernel
theorem dX4_holdGroup_13 : decode cX4_holdGroup 13 = .ok (.aload_n 0, 1) := by decide +kernel
theorem dX4_holdGroup_14 : decode cX4_holdGroup 14 = .ok (.invokevirtual 119, 3) := by decide +kernel
theorem dX4_holdGroup_17 : decode cX4_holdGroup 17 = .ok (.aload_n 0, 1) := by decide +kernel
theorem dX4_holdGroup_18 : decode cX4_holdGroup 18 = .ok (.iload_n 1, 1) := by decide +kernel
theorem dX4_holdGroup_19 : decode cX4_holdGroup 19 = .ok (.iload_n 2, 1) := by decide +kernel
theorem dX4_holdGroup_20 : decode cX4_holdGroup 20 = .ok (.invokevirtual 143, 3) := by decide +kernel
theorem dX4_holdGroup_23 : decode cX4_holdGroup 23 = .ok (.ireturn, 1) := by decide +kernel
theorem dX4_tickets_0 : decode cX4_tickets 0 = .ok (.aload_n 0, 1) := by decide +kernel
theorem dX4_tickets_1 : decode cX4_tickets 1 = .ok (.getfield 19, 3) := by decide +kernel
theorem dX4_tickets_4 : decode cX4_tickets 4 = .ok (.invokevirtual 146, 3) := by decide +kernel
theorem dX4_tickets_7 : decode cX4_tickets 7 = .ok (.ireturn, 1) := by decide +kernel
theorem dX4_ticketState_0 : decode cX4_ticketState 0 = .ok (.aload_n 0, 1) := by decide +kernel
theorem dX4_ticketState_1 : decode cX4_ticketState 1 = .ok (.iload_n 1, 1) := by decide +kernel
theorem dX4_ticketState_2 : decode cX4_ticketState 2 = .ok (.invokevirtual 149, 3) := by decide +kernel
theorem dX4_ticketState_5 : decode cX4_ticketState 5 = .ok (.aload_n 0, 1) := by decide +kernel
theorem dX4_ticketState_6 : decode cX4_ticketState 6 = .ok (.getfield 19, 3) := by decide +kernel
theorem dX4_ticketState_9 : decode cX4_ticketState 9 = .ok (.iload_n 1, 1) := by decide +kernel
theorem dX4_ticketState_10 : decode cX4_ticketState 10 = .ok (.invokevirtual 85, 3) := by decide +kernel
theorem dX4_ticketState_13 : decode cX4_ticketState 13 = .ok (.ireturn, 1) := by decide +kernel
theorem dX4_seatsOf_0 : decode cX4_seatsOf 0 = .ok (.aload_n 0, 1) := by decide +kernel
theorem dX4_seatsOf_1 : decode cX4_seatsOf 1 = .ok (.iload_n 1, 1) := by decide +kernel
theorem dX4_seatsOf_2 : decode cX4_seatsOf 2 = .ok (.invokevirtual 149, 3) := by decide +kernel
theorem dX4_seatsOf_5 : decode cX4_seatsOf 5 = .ok (.aload_n 0, 1) := by decide +kernel
theorem dX4_seatsOf_6 : decode cX4_seatsOf 6 = .ok (.getfield 19, 3) := by decide +kernel
theorem dX4_seatsOf_9 : decode cX4_seatsOf 9 = .ok (.iload_n 1, 1) := by decide +kernel
theorem dX4_seatsOf_10 : decode cX4_seatsOf 10 = .ok (.invokevirtual 152, 3) := by decide +kernel
theorem dX4_seatsOf_13 : decode cX4_seatsOf 13 = .ok (.ifCond .eq 14, 3) := by decide +kernel
theorem dX4_seatsOf_16 : decode cX4_seatsOf 16 = .ok (.aload_n 0, 1) := by decide +kernel
theorem dX4_seatsOf_17 : decode cX4_seatsOf 17 = .ok (.getfield 19, 3) := by decide +kernel
theorem dX4_seatsOf_20 : decode cX4_seatsOf 20 = .ok (.iload_n 1, 1) := by decide +kernel
theorem dX4_seatsOf_21 : decode cX4_seatsOf 21 = .ok (.invokevirtual 156, 3) := by decide +kernel
theorem dX4_seatsOf_24 : decode cX4_seatsOf 24 = .ok (.goto 4, 3) := by decide +kernel
theorem dX4_seatsOf_27 : decode cX4_seatsOf 27 = .ok (.iconst 0, 1) := by decide +kernel
theorem dX4_seatsOf_28 : decode cX4_seatsOf 28 = .ok (.ireturn, 1) := by decide +kernel
theorem dX4_priceOf_0 : decode cX4_priceOf 0 = .ok (.aload_n 0, 1) := by decide +kernel
theorem dX4_priceOf_1 : decode cX4_priceOf 1 = .ok (.iload_n 1, 1) := by decide +kernel
theorem dX4_priceOf_2 : decode cX4_priceOf 2 = .ok (.invokevirtual 149, 3) := by decide +kernel
theorem dX4_priceOf_5 : decode cX4_priceOf 5 = .ok (.aload_n 0, 1) := by decide +kernel
theorem dX4_priceOf_6 : decode cX4_priceOf 6 = .ok (.getfield 10, 3) := by decide +kernel
theorem dX4_priceOf_9 : decode cX4_priceOf 9 = .ok (.iload_n 1, 1) := by decide +kernel
theorem dX4_priceOf_10 : decode cX4_priceOf 10 = .ok (.invokevirtual 159, 3) := by decide +kernel
theorem dX4_priceOf_13 : decode cX4_priceOf 13 = .ok (.ireturn, 1) := by decide +kernel
theorem dX4_extend_0 : decode cX4_extend 0 = .ok (.aload_n 0, 1) := by decide +kernel
theorem dX4_extend_1 : decode cX4_extend 1 = .ok (.iload_n 1, 1) := by decide +kernel
theorem dX4_extend_2 : decode cX4_extend 2 = .ok (.invokevirtual 149, 3) := by decide +kernel
theorem dX4_extend_5 : decode cX4_extend 5 = .ok (.iload_n 2, 1) := by decide +kernel
theorem dX4_extend_6 : decode cX4_extend 6 = .ok (.invokestatic 116, 3) := by decide +kernel
theorem dX4_extend_9 : decode cX4_extend 9 = .ok (.aload_n 0, 1) := by decide +kernel
theorem dX4_extend_10 : decode cX4_extend 10 = .ok (.iload_n 1, 1) := by decide +kernel
theorem dX4_extend_11 : decode cX4_extend 11 = .ok (.invokevirtual 162, 3) := by decide +kernel
theorem dX4_extend_14 : decode cX4_extend 14 = .ok (.aload_n 0, 1) := by decide +kernel
theorem dX4_extend_15 : decode cX4_extend 15 = .ok (.getfield 19, 3) := by decide +kernel
theorem dX4_extend_18 : decode cX4_extend 18 = .ok (.iload_n 1, 1) := by decide +kernel
theorem dX4_extend_19 : decode cX4_extend 19 = .ok (.invokevirtual 165, 3) := by decide +kernel
theorem dX4_extend_22 : decode cX4_extend 22 = .ok (.iconst 2, 1) := by decide +kernel
theorem dX4_extend_23 : decode cX4_extend 23 = .ok (.if_icmp .lt 13, 3) := by decide +kernel
theorem dX4_extend_26 : decode cX4_extend 26 = .ok (.new 60, 3) := by decide +kernel
theorem dX4_extend_29 : decode cX4_extend 29 = .ok (.dup, 1) := by decide +kernel
theorem dX4_extend_30 : decode cX4_extend 30 = .ok (.ldc 168, 2) := by decide +kernel
theorem dX4_extend_32 : decode cX4_extend 32 = .ok (.invokespecial 64, 3) := by decide +kernel
theorem dX4_extend_35 : decode cX4_extend 35 = .ok (.athrow, 1) := by decide +kernel
theorem dX4_extend_36 : decode cX4_extend 36 = .ok (.aload_n 0, 1) := by decide +kernel
theorem dX4_extend_37 : decode cX4_extend 37 = .ok (.getfield 19, 3) := by decide +kernel
theorem dX4_extend_40 : decode cX4_extend 40 = .ok (.iload_n 1, 1) := by decide +kernel
theorem dX4_extend_41 : decode cX4_extend 41 = .ok (.aload_n 0, 1) := by decide +kernel
theorem dX4_extend_42 : decode cX4_extend 42 = .ok (.getfield 41, 3) := by decide +kernel
theorem dX4_extend_45 : decode cX4_extend 45 = .ok (.iload_n 2, 1) := by decide +kernel
theorem dX4_extend_46 : decode cX4_extend 46 = .ok (.iadd, 1) := by decide +kernel
theorem dX4_extend_47 : decode cX4_extend 47 = .ok (.invokevirtual 170, 3) := by decide +kernel
theorem dX4_extend_50 : decode cX4_extend 50 = .ok (.aload_n 0, 1) := by decide +kernel
theorem dX4_extend_51 : decode cX4_extend 51 = .ok (.getfield 41, 3) := by decide +kernel
theorem dX4_extend_54 : decode cX4_extend 54 = .ok (.iload_n 2, 1) := by decide +kernel
theorem dX4_extend_55 : decode cX4_extend 55 = .ok (.iadd, 1) := by decide +kernel
theorem dX4_extend_56 : decode cX4_extend 56 = .ok (.ireturn, 1) := by decide +kernel
theorem dX4_pay_0 : decode cX4_pay 0 = .ok (.aload_n 0, 1) := by decide +kernel
theorem dX4_pay_1 : decode cX4_pay 1 = .ok (.iload_n 1, 1) := by decide +kernel
theorem dX4_pay_2 : decode cX4_pay 2 = .ok (.invokevirtual 149, 3) := by decide +kernel
theorem dX4_pay_5 : decode cX4_pay 5 = .ok (.aload_n 0, 1) := by decide +kernel
theorem dX4_pay_6 : decode cX4_pay 6 = .ok (.iload_n 1, 1) := by decide +kernel
theorem dX4_pay_7 : decode cX4_pay 7 = .ok (.invokevirtual 162, 3) := by decide +kernel
theorem dX4_pay_10 : decode cX4_pay 10 = .ok (.aload_n 0, 1) := by decide +kernel
theorem dX4_pay_11 : decode cX4_pay 11 = .ok (.getfield 10, 3) := by decide +kernel
theorem dX4_pay_14 : decode cX4_pay 14 = .ok (.iload_n 1, 1) := by decide +kernel
theorem dX4_pay_15 : decode cX4_pay 15 = .ok (.invokevirtual 159, 3) := by decide +kernel
theorem dX4_pay_18 : decode cX4_pay 18 = .ok (.istore_n 2, 1) := by decide +kernel
theorem dX4_pay_19 : decode cX4_pay 19 = .ok (.aload_n 0, 1) := by decide +kernel
theorem dX4_pay_20 : decode cX4_pay 20 = .ok (.getfield 19, 3) := by decide +kernel
theorem dX4_pay_23 : decode cX4_pay 23 = .ok (.iload_n 1, 1) := by decide +kernel
theorem dX4_pay_24 : decode cX4_pay 24 = .ok (.iload_n 2, 1) := by decide +kernel
theorem dX4_pay_25 : decode cX4_pay 25 = .ok (.invokevirtual 173, 3) := by decide +kernel
theorem dX4_pay_28 : decode cX4_pay 28 = .ok (.aload_n 0, 1) := by decide +kernel
theorem dX4_pay_29 : decode cX4_pay 29 = .ok (.dup, 1) := by decide +kernel
theorem dX4_pay_30 : decode cX4_pay 30 = .ok (.getfield 45, 3) := by decide +kernel
theorem dX4_pay_33 : decode cX4_pay 33 = .ok (.iload_n 2, 1) := by decide +kernel
theorem dX4_pay_34 : decode cX4_pay 34 = .ok (.iadd, 1) := by decide +kernel
theorem dX4_pay_35 : decode cX4_pay 35 = .ok (.putfield 45, 3) := by decide +kernel
theorem dX4_pay_38 : decode cX4_pay 38 = .ok (.iload_n 2, 1) := by decide +kernel
theorem dX4_pay_39 : decode cX4_pay 39 = .ok (.ireturn, 1) := by decide +kernel
theorem dX4_cancel_0 : decode cX4_cancel 0 = .ok (.aload_n 0, 1) := by decide +kernel
theorem dX4_cancel_1 : decode cX4_cancel 1 = .ok (.iload_n 1, 1) := by decide +kernel
theorem dX4_cancel_2 : decode cX4_cancel 2 = .ok (.invokevirtual 149, 3) := by decide +kernel
theorem dX4_cancel_5 : decode cX4_cancel 5 = .ok (.aload_n 0, 1) := by decide +kernel
theorem dX4_cancel_6 : decode cX4_cancel 6 = .ok (.getfield 19, 3) := by decide +kernel
theorem dX4_cancel_9 : decode cX4_cancel 9 = .ok (.iload_n 1, 1) := by decide +kernel
theorem dX4_cancel_10 : decode cX4_cancel 10 = .ok (.invokevirtual 152, 3) := by decide +kernel
theorem dX4_cancel_13 : decode cX4_cancel 13 = .ok (.ifCond .ne 13, 3) := by decide +kernel
theorem dX4_cancel_16 : decode cX4_cancel 16 = .ok (.new 60, 3) := by decide +kernel
theorem dX4_cancel_19 : decode cX4_cancel 19 = .ok (.dup, 1) := by decide +kernel
theorem dX4_cancel_20 : decode cX4_cancel 20 = .ok (.ldc 176, 2) := by decide +kernel
theorem dX4_cancel_22 : decode cX4_cancel 22 = .ok (.invokespecial 64, 3) := by decide +kernel
theorem dX4_cancel_25 : decode cX4_cancel 25 = .ok (.athrow, 1) := by decide +kernel
theorem dX4_cancel_26 : decode cX4_cancel 26 = .ok (.aload_n 0, 1) := by decide +kernel
theorem dX4_cancel_27 : decode cX4_cancel 27 = .ok (.getfield 19, 3) := by decide +kernel
theorem dX4_cancel_30 : decode cX4_cancel 30 = .ok (.iload_n 1, 1) := by decide +kernel
theorem dX4_cancel_31 : decode cX4_cancel 31 = .ok (.invokevirtual 178, 3) := by decide +kernel
theorem dX4_cancel_34 : decode cX4_cancel 34 = .ok (.istore_n 2, 1) := by decide +kernel
theorem dX4_cancel_35 : decode cX4_cancel 35 = .ok (.aload_n 0, 1) := by decide +kernel
theorem dX4_cancel_36 : decode cX4_cancel 36 = .ok (.iload_n 1, 1) := by decide +kernel
theorem dX4_cancel_37 : decode cX4_cancel 37 = .ok (.iconst 3, 1) := by decide +kernel
theorem dX4_cancel_38 : decode cX4_cancel 38 = .ok (.invokevirtual 181, 3) := by decide +kernel
theorem dX4_cancel_41 : decode cX4_cancel 41 = .ok (.aload_n 0, 1) := by decide +kernel
theorem dX4_cancel_42 : decode cX4_cancel 42 = .ok (.dup, 1) := by decide +kernel
theorem dX4_cancel_43 : decode cX4_cancel 43 = .ok (.getfield 45, 3) := by decide +kernel
theorem dX4_cancel_46 : decode cX4_cancel 46 = .ok (.iload_n 2, 1) := by decide +kernel
theorem dX4_cancel_47 : decode cX4_cancel 47 = .ok (.isub, 1) := by decide +kernel
theorem dX4_cancel_48 : decode cX4_cancel 48 = .ok (.putfield 45, 3) := by decide +kernel
theorem dX4_cancel_51 : decode cX4_cancel 51 = .ok (.iload_n 2, 1) := by decide +kernel
theorem dX4_cancel_52 : decode cX4_cancel 52 = .ok (.ireturn, 1) := by decide +kernel
theorem dX4_takings_0 : decode cX4_takings 0 = .ok (.aload_n 0, 1) := by decide +kernel
theorem dX4_takings_1 : decode cX4_takings 1 = .ok (.getfield 45, 3) := by decide +kernel
theorem dX4_takings_4 : decode cX4_takings 4 = .ok (.ireturn, 1) := by decide +kernel
theorem dX4_now_0 : decode cX4_now 0 = .ok (.aload_n 0, 1) := by decide +kernel
theorem dX4_now_1 : decode cX4_now 1 = .ok (.getfield 41, 3) := by decide +kernel
theorem dX4_now_4 : decode cX4_now 4 = .ok (.ireturn, 1) := by decide +kernel
theorem dX4_pass_0 : decode cX4_pass 0 = .ok (.iload_n 1, 1) := by decide +kernel
theorem dX4_pass_1 : decode cX4_pass 1 = .ok (.iconst 1, 1) := by decide +kernel
theorem dX4_pass_2 : decode cX4_pass 2 = .ok (.sipush 1000, 3) := by decide +kernel
theorem dX4_pass_5 : decode cX4_pass 5 = .ok (.invokestatic 52, 3) := by decide +kernel
theorem dX4_pass_8 : decode cX4_pass 8 = .ok (.aload_n 0, 1) := by decide +kernel
theorem dX4_pass_9 : decode cX4_pass 9 = .ok (.dup, 1) := by decide +kernel
theorem dX4_pass_10 : decode cX4_pass 10 = .ok (.getfield 41, 3) := by decide +kernel
theorem dX4_pass_13 : decode cX4_pass 13 = .ok (.iload_n 1, 1) := by decide +kernel
theorem dX4_pass_14 : decode cX4_pass 14 = .ok (.iadd, 1) := by decide +kernel
theorem dX4_pass_15 : decode cX4_pass 15 = .ok (.putfield 41, 3) := by decide +kernel
theorem dX4_pass_18 : decode cX4_pass 18 = .ok (.iconst 0, 1) := by decide +kernel
theorem dX4_pass_19 : decode cX4_pass 19 = .ok (.istore_n 2, 1) := by decide +kernel
theorem dX4_pass_20 : decode cX4_pass 20 = .ok (.iconst 1, 1) := by decide +kernel
theorem dX4_pass_21 : decode cX4_pass 21 = .ok (.istore_n 3, 1) := by decide +kernel
theorem dX4_pass_22 : decode cX4_pass 22 = .ok (.iload_n 3, 1) := by decide +kernel
theorem dX4_pass_23 : decode cX4_pass 23 = .ok (.aload_n 0, 1) := by decide +kernel
theorem dX4_pass_24 : decode cX4_pass 24 = .ok (.getfield 19, 3) := by decide +kernel
theorem dX4_pass_27 : decode cX4_pass 27 = .ok (.invokevirtual 146, 3) := by decide +kernel
theorem dX4_pass_30 : decode cX4_pass 30 = .ok (.if_icmp .gt 44, 3) := by decide +kernel
theorem dX4_pass_33 : decode cX4_pass 33 = .ok (.aload_n 0, 1) := by decide +kernel
theorem dX4_pass_34 : decode cX4_pass 34 = .ok (.getfield 19, 3) := by decide +kernel
theorem dX4_pass_37 : decode cX4_pass 37 = .ok (.iload_n 3, 1) := by decide +kernel
theorem dX4_pass_38 : decode cX4_pass 38 = .ok (.invokevirtual 85, 3) := by decide +kernel
theorem dX4_pass_41 : decode cX4_pass 41 = .ok (.ifCond .ne 27, 3) := by decide +kernel
theorem dX4_pass_44 : decode cX4_pass 44 = .ok (.aload_n 0, 1) := by decide +kernel
theorem dX4_pass_45 : decode cX4_pass 45 = .ok (.getfield 19, 3) := by decide +kernel
theorem dX4_pass_48 : decode cX4_pass 48 = .ok (.iload_n 3, 1) := by decide +kernel
theorem dX4_pass_49 : decode cX4_pass 49 = .ok (.invokevirtual 184, 3) := by decide +kernel
theorem dX4_pass_52 : decode cX4_pass 52 = .ok (.aload_n 0, 1) := by decide +kernel
theorem dX4_pass_53 : decode cX4_pass 53 = .ok (.getfield 41, 3) := by decide +kernel
theorem dX4_pass_56 : decode cX4_pass 56 = .ok (.if_icmp .gt 12, 3) := by decide +kernel
theorem dX4_pass_59 : decode cX4_pass 59 = .ok (.aload_n 0, 1) := by decide +kernel
theorem dX4_pass_60 : decode cX4_pass 60 = .ok (.iload_n 3, 1) := by decide +kernel
theorem dX4_pass_61 : decode cX4_pass 61 = .ok (.iconst 2, 1) := by decide +kernel
theorem dX4_pass_62 : decode cX4_pass 62 = .ok (.invokevirtual 181, 3) := by decide +kernel
theorem dX4_pass_65 : decode cX4_pass 65 = .ok (.iinc 2 1, 3) := by decide +kernel
theorem dX4_pass_68 : decode cX4_pass 68 = .ok (.iinc 3 1, 3) := by decide +kernel
theorem dX4_pass_71 : decode cX4_pass 71 = .ok (.goto (-49), 3) := by decide +kernel
theorem dX4_pass_74 : decode cX4_pass 74 = .ok (.iload_n 2, 1) := by decide +kernel
theorem dX4_pass_75 : decode cX4_pass 75 = .ok (.ireturn, 1) := by decide +kernel
theorem dX4_nextExpiry_0 : decode cX4_nextExpiry 0 = .ok (.aload_n 0, 1) := by decide +kernel
theorem dX4_nextExpiry_1 : decode cX4_nextExpiry 1 = .ok (.getfield 19, 3) := by decide +kernel
theorem dX4_nextExpiry_4 : decode cX4_nextExpiry 4 = .ok (.invokevirtual 187, 3) := by decide +kernel
theorem dX4_nextExpiry_7 : decode cX4_nextExpiry 7 = .ok (.istore_n 1, 1) := by decide +kernel
theorem dX4_nextExpiry_8 : decode cX4_nextExpiry 8 = .ok (.iload_n 1, 1) := by decide +kernel
theorem dX4_nextExpiry_9 : decode cX4_nextExpiry 9 = .ok (.iconst (-1), 1) := by decide +kernel
theorem dX4_nextExpiry_10 : decode cX4_nextExpiry 10 = .ok (.if_icmp .ne 13, 3) := by decide +kernel
theorem dX4_nextExpiry_13 : decode cX4_nextExpiry 13 = .ok (.new 60, 3) := by decide +kernel
theorem dX4_nextExpiry_16 : decode cX4_nextExpiry 16 = .ok (.dup, 1) := by decide +kernel
theorem dX4_nextExpiry_17 : decode cX4_nextExpiry 17 = .ok (.ldc 190, 2) := by decide +kernel
theorem dX4_nextExpiry_19 : decode cX4_nextExpiry 19 = .ok (.invokespecial 64, 3) := by decide +kernel
theorem dX4_nextExpiry_22 : decode cX4_nextExpiry 22 = .ok (.athrow, 1) := by decide +kernel
theorem dX4_nextExpiry_23 : decode cX4_nextExpiry 23 = .ok (.iload_n 1, 1) := by decide +kernel
theorem dX4_nextExpiry_24 : decode cX4_nextExpiry 24 = .ok (.ireturn, 1) := by decide +kernel
theorem dX4_wish_0 : decode cX4_wish 0 = .ok (.aload_n 0, 1) := by decide +kernel
theorem dX4_wish_1 : decode cX4_wish 1 = .ok (.iload_n 1, 1) := by decide +kernel
theorem dX4_wish_2 : decode cX4_wish 2 = .ok (.invokevirtual 149, 3) := by decide +kernel
theorem dX4_wish_5 : decode cX4_wish 5 = .ok (.aload_n 0, 1) := by decide +kernel
theorem dX4_wish_6 : decode cX4_wish 6 = .ok (.iload_n 2, 1) := by decide +kernel
theorem dX4_wish_7 : decode cX4_wish 7 = .ok (.invokevirtual 97, 3) := by decide +kernel
theorem dX4_wish_10 : decode cX4_wish 10 = .ok (.aload_n 0, 1) := by decide +kernel
theorem dX4_wish_11 : decode cX4_wish 11 = .ok (.getfield 19, 3) := by decide +kernel
theorem dX4_wish_14 : decode cX4_wish 14 = .ok (.iload_n 1, 1) := by decide +kernel
theorem dX4_wish_15 : decode cX4_wish 15 = .ok (.invokevirtual 85, 3) := by decide +kernel
theorem dX4_wish_18 : decode cX4_wish 18 = .ok (.iconst 1, 1) := by decide +kernel
theorem dX4_wish_19 : decode cX4_wish 19 = .ok (.if_icmp .eq 13, 3) := by decide +kernel
theorem dX4_wish_22 : decode cX4_wish 22 = .ok (.new 60, 3) := by decide +kernel
theorem dX4_wish_25 : decode cX4_wish 25 = .ok (.dup, 1) := by decide +kernel
theorem dX4_wish_26 : decode cX4_wish 26 = .ok (.ldc 192, 2) := by decide +kernel
theorem dX4_wish_28 : decode cX4_wish 28 = .ok (.invokespecial 64, 3) := by decide +kernel
theorem dX4_wish_31 : decode cX4_wish 31 = .ok (.athrow, 1) := by decide +kernel
theorem dX4_wish_32 : decode cX4_wish 32 = .ok (.aload_n 0, 1) := by decide +kernel
theorem dX4_wish_33 : decode cX4_wish 33 = .ok (.getfield 19, 3) := by decide +kernel
theorem dX4_wish_36 : decode cX4_wish 36 = .ok (.iload_n 1, 1) := by decide +kernel
theorem dX4_wish_37 : decode cX4_wish 37 = .ok (.invokevirtual 194, 3) := by decide +kernel
theorem dX4_wish_40 : decode cX4_wish 40 = .ok (.istore_n 3, 1) := by decide +kernel
theorem dX4_wish_41 : decode cX4_wish 41 = .ok (.iload_n 3, 1) := by decide +kernel
theorem dX4_wish_42 : decode cX4_wish 42 = .ok (.iconst (-1), 1) := by decide +kernel
theorem dX4_wish_43 : decode cX4_wish 43 = .ok (.if_icmp .eq 8, 3) := by decide +kernel
theorem dX4_wish_46 : decode cX4_wish 46 = .ok (.iload_n 3, 1) := by decide +kernel
theorem dX4_wish_47 : decode cX4_wish 47 = .ok (.iload_n 2, 1) := by decide +kernel
theorem dX4_wish_48 : decode cX4_wish 48 = .ok (.if_icmp .ne 13, 3) := by decide +kernel
theorem dX4_wish_51 : decode cX4_wish 51 = .ok (.new 60, 3) := by decide +kernel
theorem dX4_wish_54 : decode cX4_wish 54 = .ok (.dup, 1) := by decide +kernel
theorem dX4_wish_55 : decode cX4_wish 55 = .ok (.ldc 197, 2) := by decide +kernel
theorem dX4_wish_57 : decode cX4_wish 57 = .ok (.invokespecial 64, 3) := by decide +kernel
theorem dX4_wish_60 : decode cX4_wish 60 = .ok (.athrow, 1) := by decide +kernel
theorem dX4_wish_61 : decode cX4_wish 61 = .ok (.aload_n 0, 1) := by decide +kernel
theorem dX4_wish_62 : decode cX4_wish 62 = .ok (.getfield 19, 3) := by decide +kernel
theorem dX4_wish_65 : decode cX4_wish 65 = .ok (.iload_n 1, 1) := by decide +kernel
theorem dX4_wish_66 : decode cX4_wish 66 = .ok (.invokevirtual 199, 3) := by decide +kernel
theorem dX4_wish_69 : decode cX4_wish 69 = .ok (.istore 4, 2) := by decide +kernel
theorem dX4_wish_71 : decode cX4_wish 71 = .ok (.aload_n 0, 1) := by decide +kernel
theorem dX4_wish_72 : decode cX4_wish 72 = .ok (.getfield 19, 3) := by decide +kernel
theorem dX4_wish_75 : decode cX4_wish 75 = .ok (.iload_n 1, 1) := by decide +kernel
theorem dX4_wish_76 : decode cX4_wish 76 = .ok (.iload_n 2, 1) := by decide +kernel
theorem dX4_wish_77 : decode cX4_wish 77 = .ok (.invokevirtual 202, 3) := by decide +kernel
theorem dX4_wish_80 : decode cX4_wish 80 = .ok (.iload 4, 2) := by decide +kernel
theorem dX4_wish_82 : decode cX4_wish 82 = .ok (.ireturn, 1) := by decide +kernel
theorem dX4_exchange_0 : decode cX4_exchange 0 = .ok (.aload_n 0, 1) := by decide +kernel
theorem dX4_exchange_1 : decode cX4_exchange 1 = .ok (.iload_n 1, 1) := by decide +kernel
theorem dX4_exchange_2 : decode cX4_exchange 2 = .ok (.invokevirtual 149, 3) := by decide +kernel
theorem dX4_exchange_5 : decode cX4_exchange 5 = .ok (.aload_n 0, 1) := by decide +kernel
theorem dX4_exchange_6 : decode cX4_exchange 6 = .ok (.getfield 19, 3) := by decide +kernel
theorem dX4_exchange_9 : decode cX4_exchange 9 = .ok (.iload_n 1, 1) := by decide +kernel
theorem dX4_exchange_10 : decode cX4_exchange 10 = .ok (.invokevirtual 199, 3) := by decide +kernel
theorem dX4_exchange_13 : decode cX4_exchange 13 = .ok (.iconst (-1), 1) := by decide +kernel
theorem dX4_exchange_14 : decode cX4_exchange 14 = .ok (.if_icmp .ne 13, 3) := by decide +kernel
theorem dX4_exchange_17 : decode cX4_exchange 17 = .ok (.new 60, 3) := by decide +kernel
theorem dX4_exchange_20 : decode cX4_exchange 20 = .ok (.dup, 1) := by decide +kernel
theorem dX4_exchange_21 : decode cX4_exchange 21 = .ok (.ldc 205, 2) := by decide +kernel
theorem dX4_exchange_23 : decode cX4_exchange 23 = .ok (.invokespecial 64, 3) := by decide +kernel
theorem dX4_exchange_26 : decode cX4_exchange 26 = .ok (.athrow, 1) := by decide +kernel
theorem dX4_exchange_27 : decode cX4_exchange 27 = .ok (.aload_n 0, 1) := by decide +kernel
theorem dX4_exchange_28 : decode cX4_exchange 28 = .ok (.getfield 37, 3) := by decide +kernel
theorem dX4_exchange_31 : decode cX4_exchange 31 = .ok (.iload_n 1, 1) := by decide +kernel
theorem dX4_exchange_32 : decode cX4_exchange 32 = .ok (.invokevirtual 207, 3) := by decide +kernel
theorem dX4_exchange_35 : decode cX4_exchange 35 = .ok (.ifCond .ne 13, 3) := by decide +kernel
theorem dX4_exchange_38 : decode cX4_exchange 38 = .ok (.new 60, 3) := by decide +kernel
theorem dX4_exchange_41 : decode cX4_exchange 41 = .ok (.dup, 1) := by decide +kernel
theorem dX4_exchange_42 : decode cX4_exchange 42 = .ok (.ldc 210, 2) := by decide +kernel
theorem dX4_exchange_44 : decode cX4_exchange 44 = .ok (.invokespecial 64, 3) := by decide +kernel
theorem dX4_exchange_47 : decode cX4_exchange 47 = .ok (.athrow, 1) := by decide +kernel
theorem dX4_exchange_48 : decode cX4_exchange 48 = .ok (.aload_n 0, 1) := by decide +kernel
theorem dX4_exchange_49 : decode cX4_exchange 49 = .ok (.getfield 37, 3) := by decide +kernel
theorem dX4_exchange_52 : decode cX4_exchange 52 = .ok (.invokevirtual 212, 3) := by decide +kernel
theorem dX4_exchange_55 : decode cX4_exchange 55 = .ok (.ireturn, 1) := by decide +kernel
theorem dX4_needRow_0 : decode cX4_needRow 0 = .ok (.aload_n 0, 1) := by decide +kernel
theorem dX4_needRow_1 : decode cX4_needRow 1 = .ok (.getfield 10, 3) := by decide +kernel
theorem dX4_needRow_4 : decode cX4_needRow 4 = .ok (.iload_n 1, 1) := by decide +kernel
theorem dX4_needRow_5 : decode cX4_needRow 5 = .ok (.invokevirtual 215, 3) := by decide +kernel
theorem dX4_needRow_8 : decode cX4_needRow 8 = .ok (.ifCond .ne 13, 3) := by decide +kernel
theorem dX4_needRow_11 : decode cX4_needRow 11 = .ok (.new 218, 3) := by decide +kernel
theorem dX4_needRow_14 : decode cX4_needRow 14 = .ok (.dup, 1) := by decide +kernel
theorem dX4_needRow_15 : decode cX4_needRow 15 = .ok (.ldc 220, 2) := by decide +kernel
theorem dX4_needRow_17 : decode cX4_needRow 17 = .ok (.invokespecial 222, 3) := by decide +kernel
theorem dX4_needRow_20 : decode cX4_needRow 20 = .ok (.athrow, 1) := by decide +kernel
theorem dX4_needRow_21 : decode cX4_needRow 21 = .ok (.return_, 1) := by decide +kernel
theorem dX4_needSeat_0 : decode cX4_needSeat 0 = .ok (.aload_n 0, 1) := by decide +kernel
theorem dX4_needSeat_1 : decode cX4_needSeat 1 = .ok (.getfield 10, 3) := by decide +kernel
theorem dX4_needSeat_4 : decode cX4_needSeat 4 = .ok (.iload_n 1, 1) := by decide +kernel
theorem dX4_needSeat_5 : decode cX4_needSeat 5 = .ok (.iload_n 2, 1) := by decide +kernel
theorem dX4_needSeat_6 : decode cX4_needSeat 6 = .ok (.invokevirtual 223, 3) := by decide +kernel
theorem dX4_needSeat_9 : decode cX4_needSeat 9 = .ok (.ifCond .ne 13, 3) := by decide +kernel
theorem dX4_needSeat_12 : decode cX4_needSeat 12 = .ok (.new 218, 3) := by decide +kernel
theorem dX4_needSeat_15 : decode cX4_needSeat 15 = .ok (.dup, 1) := by decide +kernel
theorem dX4_needSeat_16 : decode cX4_needSeat 16 = .ok (.ldc 227, 2) := by decide +kernel
theorem dX4_needSeat_18 : decode cX4_needSeat 18 = .ok (.invokespecial 222, 3) := by decide +kernel
theorem dX4_needSeat_21 : decode cX4_needSeat 21 = .ok (.athrow, 1) := by decide +kernel
theorem dX4_needSeat_22 : decode cX4_needSeat 22 = .ok (.return_, 1) := by decide +kernel
theorem dX4_needTicket_0 : decode cX4_needTicket 0 = .ok (.aload_n 0, 1) := by decide +kernel
theorem dX4_needTicket_1 : decode cX4_needTicket 1 = .ok (.getfield 19, 3) := by decide +kernel
theorem dX4_needTicket_4 : decode cX4_needTicket 4 = .ok (.iload_n 1, 1) := by decide +kernel
theorem dX4_needTicket_5 : decode cX4_needTicket 5 = .ok (.invokevirtual 229, 3) := by decide +kernel
theorem dX4_needTicket_8 : decode cX4_needTicket 8 = .ok (.ifCond .ne 13, 3) := by decide +kernel
theorem dX4_needTicket_11 : decode cX4_needTicket 11 = .ok (.new 218, 3) := by decide +kernel
theorem dX4_needTicket_14 : decode cX4_needTicket 14 = .ok (.dup, 1) := by decide +kernel
theorem dX4_needTicket_15 : decode cX4_needTicket 15 = .ok (.ldc 232, 2) := by decide +kernel
theorem dX4_needTicket_17 : decode cX4_needTicket 17 = .ok (.invokespecial 222, 3) := by decide +kernel
theorem dX4_needTicket_20 : decode cX4_needTicket 20 = .ok (.athrow, 1) := by decide +kernel
theorem dX4_needTicket_21 : decode cX4_needTicket 21 = .ok (.return_, 1) := by decide +kernel
theorem dX4_needRange_0 : decode cX4_needRange 0 = .ok (.iload_n 0, 1) := by decide +kernel
theorem dX4_needRange_1 : decode cX4_needRange 1 = .ok (.iload_n 1, 1) := by decide +kernel
theorem dX4_needRange_2 : decode cX4_needRange 2 = .ok (.if_icmp .lt 8, 3) := by decide +kernel
theorem dX4_needRange_5 : decode cX4_needRange 5 = .ok (.iload_n 0, 1) := by decide +kernel
theorem dX4_needRange_6 : decode cX4_needRange 6 = .ok (.iload_n 2, 1) := by decide +kernel
theorem dX4_needRange_7 : decode cX4_needRange 7 = .ok (.if_icmp .le 13, 3) := by decide +kernel
theorem dX4_needRange_10 : decode cX4_needRange 10 = .ok (.new 234, 3) := by decide +kernel
theorem dX4_needRange_13 : decode cX4_needRange 13 = .ok (.dup, 1) := by decide +kernel
theorem dX4_needRange_14 : decode cX4_needRange 14 = .ok (.ldc 236, 2) := by decide +kernel
theorem dX4_needRange_16 : decode cX4_needRange 16 = .ok (.invokespecial 238, 3) := by decide +kernel
theorem dX4_needRange_19 : decode cX4_needRange 19 = .ok (.athrow, 1) := by decide +kernel
theorem dX4_needRange_20 : decode cX4_needRange 20 = .ok (.return_, 1) := by decide +kernel
theorem dX4_needSeats_0 : decode cX4_needSeats 0 = .ok (.iload_n 0, 1) := by decide +kernel
theorem dX4_needSeats_1 : decode cX4_needSeats 1 = .ok (.iconst 1, 1) := by decide +kernel
theorem dX4_needSeats_2 : decode cX4_needSeats 2 = .ok (.bipush 20, 2) := by decide +kernel
theorem dX4_needSeats_4 : decode cX4_needSeats 4 = .ok (.invokestatic 52, 3) := by decide +kernel
theorem dX4_needSeats_7 : decode cX4_needSeats 7 = .ok (.return_, 1) := by decide +kernel
theorem dX4_needMinutes_0 : decode cX4_needMinutes 0 = .ok (.iload_n 0, 1) := by decide +kernel
theorem dX4_needMinutes_1 : decode cX4_needMinutes 1 = .ok (.iconst 1, 1) := by decide +kernel
theorem dX4_needMinutes_2 : decode cX4_needMinutes 2 = .ok (.sipush 200, 3) := by decide +kernel
theorem dX4_needMinutes_5 : decode cX4_needMinutes 5 = .ok (.invokestatic 52, 3) := by decide +kernel
theorem dX4_needMinutes_8 : decode cX4_needMinutes 8 = .ok (.return_, 1) := by decide +kernel
theorem dX4_needPeople_0 : decode cX4_needPeople 0 = .ok (.iload_n 0, 1) := by decide +kernel
theorem dX4_needPeople_1 : decode cX4_needPeople 1 = .ok (.iconst 2, 1) := by decide +kernel
theorem dX4_needPeople_2 : decode cX4_needPeople 2 = .ok (.bipush 100, 2) := by decide +kernel
theorem dX4_needPeople_4 : decode cX4_needPeople 4 = .ok (.invokestatic 52, 3) := by decide +kernel
theorem dX4_needPeople_7 : decode cX4_needPeople 7 = .ok (.return_, 1) := by decide +kernel
theorem dX4_needHold_0 : decode cX4_needHold 0 = .ok (.aload_n 0, 1) := by decide +kernel
theorem dX4_needHold_1 : decode cX4_needHold 1 = .ok (.getfield 19, 3) := by decide +kernel
theorem dX4_needHold_4 : decode cX4_needHold 4 = .ok (.iload_n 1, 1) := by decide +kernel
theorem dX4_needHold_5 : decode cX4_needHold 5 = .ok (.invokevirtual 85, 3) := by decide +kernel
theorem dX4_needHold_8 : decode cX4_needHold 8 = .ok (.ifCond .eq 13, 3) := by decide +kernel
theorem dX4_needHold_11 : decode cX4_needHold 11 = .ok (.new 60, 3) := by decide +kernel
theorem dX4_needHold_14 : decode cX4_needHold 14 = .ok (.dup, 1) := by decide +kernel
theorem dX4_needHold_15 : decode cX4_needHold 15 = .ok (.ldc 239, 2) := by decide +kernel
theorem dX4_needHold_17 : decode cX4_needHold 17 = .ok (.invokespecial 64, 3) := by decide +kernel
theorem dX4_needHold_20 : decode cX4_needHold 20 = .ok (.athrow, 1) := by decide +kernel
theorem dX4_needHold_21 : decode cX4_needHold 21 = .ok (.return_, 1) := by decide +kernel
theorem dX4_needTicketLeft_0 : decode cX4_needTicketLeft 0 = .ok (.aload_n 0, 1) := by decide +kernel
theorem dX4_needTicketLeft_1 : decode cX4_needTicketLeft 1 = .ok (.getfield 19, 3) := by decide +kernel
theorem dX4_needTicketLeft_4 : decode cX4_needTicketLeft 4 = .ok (.invokevirtual 146, 3) := by decide +kernel
theorem dX4_needTicketLeft_7 : decode cX4_needTicketLeft 7 = .ok (.bipush 100, 2) := by decide +kernel
theorem dX4_needTicketLeft_9 : decode cX4_needTicketLeft 9 = .ok (.if_icmp .lt 13, 3) := by decide +kernel
theorem dX4_needTicketLeft_12 : decode cX4_needTicketLeft 12 = .ok (.new 60, 3) := by decide +kernel
theorem dX4_needTicketLeft_15 : decode cX4_needTicketLeft 15 = .ok (.dup, 1) := by decide +kernel
theorem dX4_needTicketLeft_16 : decode cX4_needTicketLeft 16 = .ok (.ldc 241, 2) := by decide +kernel
theorem dX4_needTicketLeft_18 : decode cX4_needTicketLeft 18 = .ok (.invokespecial 64, 3) := by decide +kernel
theorem dX4_needTicketLeft_21 : decode cX4_needTicketLeft 21 = .ok (.athrow, 1) := by decide +kernel
theorem dX4_needTicketLeft_22 : decode cX4_needTicketLeft 22 = .ok (.return_, 1) := by decide +kernel
theorem dX4_needBest_0 : decode cX4_needBest 0 = .ok (.aload_n 0, 1) := by decide +kernel
theorem dX4_needBest_1 : decode cX4_needBest 1 = .ok (.getfield 10, 3) := by decide +kernel
theorem dX4_needBest_4 : decode cX4_needBest 4 = .ok (.iload_n 1, 1) := by decide +kernel
theorem dX4_needBest_5 : decode cX4_needBest 5 = .ok (.iconst 0, 1) := by decide +kernel
theorem dX4_needBest_6 : decode cX4_needBest 6 = .ok (.invokevirtual 243, 3) := by decide +kernel
theorem dX4_needBest_9 : decode cX4_needBest 9 = .ok (.istore_n 2, 1) := by decide +kernel
theorem dX4_needBest_10 : decode cX4_needBest 10 = .ok (.iload_n 2, 1) := by decide +kernel
theorem dX4_needBest_11 : decode cX4_needBest 11 = .ok (.iconst (-1), 1) := by decide +kernel
theorem dX4_needBest_12 : decode cX4_needBest 12 = .ok (.if_icmp .ne 13, 3) := by decide +kernel
theorem dX4_needBest_15 : decode cX4_needBest 15 = .ok (.aload_n 0, 1) := by decide +kernel
theorem dX4_needBest_16 : decode cX4_needBest 16 = .ok (.getfield 10, 3) := by decide +kernel
theorem dX4_needBest_19 : decode cX4_needBest 19 = .ok (.iload_n 1, 1) := by decide +kernel
theorem dX4_needBest_20 : decode cX4_needBest 20 = .ok (.iconst 1, 1) := by decide +kernel
theorem dX4_needBest_21 : decode cX4_needBest 21 = .ok (.invokevirtual 243, 3) := by decide +kernel
theorem dX4_needBest_24 : decode cX4_needBest 24 = .ok (.istore_n 2, 1) := by decide +kernel
theorem dX4_needBest_25 : decode cX4_needBest 25 = .ok (.iload_n 2, 1) := by decide +kernel
theorem dX4_needBest_26 : decode cX4_needBest 26 = .ok (.iconst (-1), 1) := by decide +kernel
theorem dX4_needBest_27 : decode cX4_needBest 27 = .ok (.if_icmp .ne 13, 3) := by decide +kernel
theorem dX4_needBest_30 : decode cX4_needBest 30 = .ok (.new 60, 3) := by decide +kernel
theorem dX4_needBest_33 : decode cX4_needBest 33 = .ok (.dup, 1) := by decide +kernel
theorem dX4_needBest_34 : decode cX4_needBest 34 = .ok (.ldc 247, 2) := by decide +kernel
theorem dX4_needBest_36 : decode cX4_needBest 36 = .ok (.invokespecial 64, 3) := by decide +kernel
theorem dX4_needBest_39 : decode cX4_needBest 39 = .ok (.athrow, 1) := by decide +kernel
theorem dX4_needBest_40 : decode cX4_needBest 40 = .ok (.iload_n 2, 1) := by decide +kernel
theorem dX4_needBest_41 : decode cX4_needBest 41 = .ok (.ireturn, 1) := by decide +kernel
theorem dX4_needSplit_0 : decode cX4_needSplit 0 = .ok (.aload_n 0, 1) := by decide +kernel
theorem dX4_needSplit_1 : decode cX4_needSplit 1 = .ok (.getfield 28, 3) := by decide +kernel
theorem dX4_needSplit_4 : decode cX4_needSplit 4 = .ok (.iload_n 1, 1) := by decide +kernel
theorem dX4_needSplit_5 : decode cX4_needSplit 5 = .ok (.invokevirtual 249, 3) := by decide +kernel
theorem dX4_needSplit_8 : decode cX4_needSplit 8 = .ok (.ifCond .ne 13, 3) := by decide +kernel
theorem dX4_needSplit_11 : decode cX4_needSplit 11 = .ok (.new 60, 3) := by decide +kernel
theorem dX4_needSplit_14 : decode cX4_needSplit 14 = .ok (.dup, 1) := by decide +kernel
theorem dX4_needSplit_15 : decode cX4_needSplit 15 = .ok (.ldc 250, 2) := by decide +kernel
theorem dX4_needSplit_17 : decode cX4_needSplit 17 = .ok (.invokespecial 64, 3) := by decide +kernel
theorem dX4_needSplit_20 : decode cX4_needSplit 20 = .ok (.athrow, 1) := by decide +kernel
theorem dX4_needSplit_21 : decode cX4_needSplit 21 = .ok (.return_, 1) := by decide +kernel
theorem dX4_grantBlock_0 : decode cX4_grantBlock 0 = .ok (.aload_n 0, 1) := by decide +kernel
theorem dX4_grantBlock_1 : decode cX4_grantBlock 1 = .ok (.getfield 19, 3) := by decide +kernel
theorem dX4_grantBlock_4 : decode cX4_grantBlock 4 = .ok (.iload_n 3, 1) := by decide +kernel
theorem dX4_grantBlock_5 : decode cX4_grantBlock 5 = .ok (.aload_n 0, 1) := by decide +kernel
theorem dX4_grantBlock_6 : decode cX4_grantBlock 6 = .ok (.getfield 41, 3) := by decide +kernel
theorem dX4_grantBlock_9 : decode cX4_grantBlock 9 = .ok (.iload 4, 2) := by decide +kernel
theorem dX4_grantBlock_11 : decode cX4_grantBlock 11 = .ok (.iadd, 1) := by decide +kernel
theorem dX4_grantBlock_12 : decode cX4_grantBlock 12 = .ok (.invokevirtual 252, 3) := by decide +kernel
theorem dX4_grantBlock_15 : decode cX4_grantBlock 15 = .ok (.istore 5, 2) := by decide +kernel
theorem dX4_grantBlock_17 : decode cX4_grantBlock 17 = .ok (.aload_n 0, 1) := by decide +kernel
theorem dX4_grantBlock_18 : decode cX4_grantBlock 18 = .ok (.getfield 19, 3) := by decide +kernel
theorem dX4_grantBlock_21 : decode cX4_grantBlock 21 = .ok (.iload 5, 2) := by decide +kernel
theorem dX4_grantBlock_23 : decode cX4_grantBlock 23 = .ok (.iload_n 1, 1) := by decide +kernel
theorem dX4_grantBlock_24 : decode cX4_grantBlock 24 = .ok (.iload_n 2, 1) := by decide +kernel
theorem dX4_grantBlock_25 : decode cX4_grantBlock 25 = .ok (.invokevirtual 255, 3) := by decide +kernel
theorem dX4_grantBlock_28 : decode cX4_grantBlock 28 = .ok (.aload_n 0, 1) := by decide +kernel
theorem dX4_grantBlock_29 : decode cX4_grantBlock 29 = .ok (.getfield 10, 3) := by decide +kernel
theorem dX4_grantBlock_32 : decode cX4_grantBlock 32 = .ok (.iload_n 1, 1) := by decide +kernel
theorem dX4_grantBlock_33 : decode cX4_grantBlock 33 = .ok (.iload_n 2, 1) := by decide +kernel
theorem dX4_grantBlock_34 : decode cX4_grantBlock 34 = .ok (.iload_n 3, 1) := by decide +kernel
theorem dX4_grantBlock_35 : decode cX4_grantBlock 35 = .ok (.iload 5, 2) := by decide +kernel
theorem dX4_grantBlock_37 : decode cX4_grantBlock 37 = .ok (.invokevirtual 81, 3) := by decide +kernel
theorem dX4_grantBlock_40 : decode cX4_grantBlock 40 = .ok (.iload 5, 2) := by decide +kernel
theorem dX4_grantBlock_42 : decode cX4_grantBlock 42 = .ok (.ireturn, 1) := by decide +kernel
theorem dX4_grantSplit_0 : decode cX4_grantSplit 0 = .ok (.aload_n 0, 1) := by decide +kernel
theorem dX4_grantSplit_1 : decode cX4_grantSplit 1 = .ok (.getfield 19, 3) := by decide +kernel
theorem dX4_grantSplit_4 : decode cX4_grantSplit 4 = .ok (.iload_n 1, 1) := by decide +kernel
theorem dX4_grantSplit_5 : decode cX4_grantSplit 5 = .ok (.aload_n 0, 1) := by decide +kernel
theorem dX4_grantSplit_6 : decode cX4_grantSplit 6 = .ok (.getfield 41, 3) := by decide +kernel
theorem dX4_grantSplit_9 : decode cX4_grantSplit 9 = .ok (.iload_n 2, 1) := by decide +kernel
theorem dX4_grantSplit_10 : decode cX4_grantSplit 10 = .ok (.iadd, 1) := by decide +kernel
theorem dX4_grantSplit_11 : decode cX4_grantSplit 11 = .ok (.invokevirtual 252, 3) := by decide +kernel
theorem dX4_grantSplit_14 : decode cX4_grantSplit 14 = .ok (.istore_n 3, 1) := by decide +kernel
theorem dX4_grantSplit_15 : decode cX4_grantSplit 15 = .ok (.aload_n 0, 1) := by decide +kernel
theorem dX4_grantSplit_16 : decode cX4_grantSplit 16 = .ok (.getfield 28, 3) := by decide +kernel
theorem dX4_grantSplit_19 : decode cX4_grantSplit 19 = .ok (.invokevirtual 137, 3) := by decide +kernel
theorem dX4_grantSplit_22 : decode cX4_grantSplit 22 = .ok (.iconst 1, 1) := by decide +kernel
theorem dX4_grantSplit_23 : decode cX4_grantSplit 23 = .ok (.if_icmp .ne 7, 3) := by decide +kernel
theorem dX4_grantSplit_26 : decode cX4_grantSplit 26 = .ok (.iconst 1, 1) := by decide +kernel
theorem dX4_grantSplit_27 : decode cX4_grantSplit 27 = .ok (.goto 4, 3) := by decide +kernel
theorem dX4_grantSplit_30 : decode cX4_grantSplit 30 = .ok (.iconst 0, 1) := by decide +kernel
theorem dX4_grantSplit_31 : decode cX4_grantSplit 31 = .ok (.istore 4, 2) := by decide +kernel
theorem dX4_grantSplit_33 : decode cX4_grantSplit 33 = .ok (.iconst 0, 1) := by decide +kernel
theorem dX4_grantSplit_34 : decode cX4_grantSplit 34 = .ok (.istore 5, 2) := by decide +kernel
theorem dX4_grantSplit_36 : decode cX4_grantSplit 36 = .ok (.iload 5, 2) := by decide +kernel
theorem dX4_grantSplit_38 : decode cX4_grantSplit 38 = .ok (.aload_n 0, 1) := by decide +kernel
theorem dX4_grantSplit_39 : decode cX4_grantSplit 39 = .ok (.getfield 10, 3) := by decide +kernel
theorem dX4_grantSplit_42 : decode cX4_grantSplit 42 = .ok (.invokevirtual 56, 3) := by decide +kernel
theorem dX4_grantSplit_45 : decode cX4_grantSplit 45 = .ok (.if_icmp .ge 67, 3) := by decide +kernel
theorem dX4_grantSplit_48 : decode cX4_grantSplit 48 = .ok (.aload_n 0, 1) := by decide +kernel
theorem dX4_grantSplit_49 : decode cX4_grantSplit 49 = .ok (.getfield 28, 3) := by decide +kernel
theorem dX4_grantSplit_52 : decode cX4_grantSplit 52 = .ok (.iload 5, 2) := by decide +kernel
theorem dX4_grantSplit_54 : decode cX4_grantSplit 54 = .ok (.invokevirtual 140, 3) := by decide +kernel
theorem dX4_grantSplit_57 : decode cX4_grantSplit 57 = .ok (.istore 6, 2) := by decide +kernel
theorem dX4_grantSplit_59 : decode cX4_grantSplit 59 = .ok (.iload 6, 2) := by decide +kernel
theorem dX4_grantSplit_61 : decode cX4_grantSplit 61 = .ok (.ifCond .le 45, 3) := by decide +kernel
theorem dX4_grantSplit_64 : decode cX4_grantSplit 64 = .ok (.aload_n 0, 1) := by decide +kernel
theorem dX4_grantSplit_65 : decode cX4_grantSplit 65 = .ok (.getfield 28, 3) := by decide +kernel
theorem dX4_grantSplit_68 : decode cX4_grantSplit 68 = .ok (.iload 5, 2) := by decide +kernel
theorem dX4_grantSplit_70 : decode cX4_grantSplit 70 = .ok (.invokevirtual 258, 3) := by decide +kernel
theorem dX4_grantSplit_73 : decode cX4_grantSplit 73 = .ok (.istore 7, 2) := by decide +kernel
theorem dX4_grantSplit_75 : decode cX4_grantSplit 75 = .ok (.aload_n 0, 1) := by decide +kernel
theorem dX4_grantSplit_76 : decode cX4_grantSplit 76 = .ok (.getfield 10, 3) := by decide +kernel
theorem dX4_grantSplit_79 : decode cX4_grantSplit 79 = .ok (.iload 5, 2) := by decide +kernel
theorem dX4_grantSplit_81 : decode cX4_grantSplit 81 = .ok (.iload 7, 2) := by decide +kernel
theorem dX4_grantSplit_83 : decode cX4_grantSplit 83 = .ok (.iload 6, 2) := by decide +kernel
theorem dX4_grantSplit_85 : decode cX4_grantSplit 85 = .ok (.iload_n 3, 1) := by decide +kernel
theorem dX4_grantSplit_86 : decode cX4_grantSplit 86 = .ok (.invokevirtual 81, 3) := by decide +kernel
theorem dX4_grantSplit_89 : decode cX4_grantSplit 89 = .ok (.iload 4, 2) := by decide +kernel
theorem dX4_grantSplit_91 : decode cX4_grantSplit 91 = .ok (.ifCond .eq 15, 3) := by decide +kernel
theorem dX4_grantSplit_94 : decode cX4_grantSplit 94 = .ok (.aload_n 0, 1) := by decide +kernel
theorem dX4_grantSplit_95 : decode cX4_grantSplit 95 = .ok (.getfield 19, 3) := by decide +kernel
theorem dX4_grantSplit_98 : decode cX4_grantSplit 98 = .ok (.iload_n 3, 1) := by decide +kernel
theorem dX4_grantSplit_99 : decode cX4_grantSplit 99 = .ok (.iload 5, 2) := by decide +kernel
theorem dX4_grantSplit_101 : decode cX4_grantSplit 101 = .ok (.iload 7, 2) := by decide +kernel
theorem dX4_grantSplit_103 : decode cX4_grantSplit 103 = .ok (.invokevirtual 255, 3) := by decide +kernel
theorem dX4_grantSplit_106 : decode cX4_grantSplit 106 = .ok (.iinc 5 1, 3) := by decide +kernel
theorem dX4_grantSplit_109 : decode cX4_grantSplit 109 = .ok (.goto (-73), 3) := by decide +kernel
theorem dX4_grantSplit_112 : decode cX4_grantSplit 112 = .ok (.iload_n 3, 1) := by decide +kernel
theorem dX4_grantSplit_113 : decode cX4_grantSplit 113 = .ok (.ireturn, 1) := by decide +kernel
theorem dX4_closeTicket_0 : decode cX4_closeTicket 0 = .ok (.aload_n 0, 1) := by decide +kernel
theorem dX4_closeTicket_1 : decode cX4_closeTicket 1 = .ok (.getfield 10, 3) := by decide +kernel
theorem dX4_closeTicket_4 : decode cX4_closeTicket 4 = .ok (.iload_n 1, 1) := by decide +kernel
theorem dX4_closeTicket_5 : decode cX4_closeTicket 5 = .ok (.invokevirtual 261, 3) := by decide +kernel
theorem dX4_closeTicket_8 : decode cX4_closeTicket 8 = .ok (.aload_n 0, 1) := by decide +kernel
theorem dX4_closeTicket_9 : decode cX4_closeTicket 9 = .ok (.getfield 19, 3) := by decide +kernel
theorem dX4_closeTicket_12 : decode cX4_closeTicket 12 = .ok (.iload_n 1, 1) := by decide +kernel
theorem dX4_closeTicket_13 : decode cX4_closeTicket 13 = .ok (.iload_n 2, 1) := by decide +kernel
theorem dX4_closeTicket_14 : decode cX4_closeTicket 14 = .ok (.invokevirtual 264, 3) := by decide +kernel
theorem dX4_closeTicket_17 : decode cX4_closeTicket 17 = .ok (.return_, 1) := by decide +kernel
end
section
theorem dX5_init_0 : decode cX5_init 0 = .ok (.aload_n 0, 1) := by decide +kernel
theorem dX5_init_1 : decode cX5_init 1 = .ok (.invokespecial 1, 3) := by decide +kernel
theorem dX5_init_4 : decode cX5_init 4 = .ok (.aload_n 0, 1) := by decide +kernel
theorem dX5_init_5 : decode cX5_init 5 = .ok (.bipush 12, 2) := by decide +kernel
theorem dX5_init_7 : decode cX5_init 7 = .ok (.newarray .int, 2) := by decide +kernel
theorem dX5_init_9 : decode cX5_init 9 = .ok (.putfield 7, 3) := by decide +kernel
theorem dX5_init_12 : decode cX5_init 12 = .ok (.aload_n 0, 1) := by decide +kernel
theorem dX5_init_13 : decode cX5_init 13 = .ok (.bipush 12, 2) := by decide +kernel
theorem dX5_init_15 : decode cX5_init 15 = .ok (.newarray .int, 2) := by decide +kernel
theorem dX5_init_17 : decode cX5_init 17 = .ok (.putfield 13, 3) := by decide +kernel
theorem dX5_init_20 : decode cX5_init 20 = .ok (.aload_n 0, 1) := by decide +kernel
theorem dX5_init_21 : decode cX5_init 21 = .ok (.bipush 12, 2) := by decide +kernel
theorem dX5_init_23 : decode cX5_init 23 = .ok (.newarray .int, 2) := by decide +kernel
theorem dX5_init_25 : decode cX5_init 25 = .ok (.putfield 16, 3) := by decide +kernel
theorem dX5_init_28 : decode cX5_init 28 = .ok (.aload_n 0, 1) := by decide +kernel
theorem dX5_init_29 : decode cX5_init 29 = .ok (.sipush 240, 3) := by decide +kernel
theorem dX5_init_32 : decode cX5_init 32 = .ok (.newarray .int, 2) := by decide +kernel
theorem dX5_init_34 : decode cX5_init 34 = .ok (.putfield 19, 3) := by decide +kernel
theorem dX5_init_37 : decode cX5_init 37 = .ok (.aload_n 0, 1) := by decide +kernel
theorem dX5_init_38 : decode cX5_init 38 = .ok (.bipush 101, 2) := by decide +kernel
theorem dX5_init_40 : decode cX5_init 40 = .ok (.newarray .int, 2) := by decide +kernel
theorem dX5_init_42 : decode cX5_init 42 = .ok (.putfield 22, 3) := by decide +kernel
theorem dX5_init_45 : decode cX5_init 45 = .ok (.aload_n 0, 1) := by decide +kernel
theorem dX5_init_46 : decode cX5_init 46 = .ok (.bipush 101, 2) := by decide +kernel
theorem dX5_init_48 : decode cX5_init 48 = .ok (.newarray .int, 2) := by decide +kernel
theorem dX5_init_50 : decode cX5_init 50 = .ok (.putfield 25, 3) := by decide +kernel
theorem dX5_init_53 : decode cX5_init 53 = .ok (.aload_n 0, 1) := by decide +kernel
theorem dX5_init_54 : decode cX5_init 54 = .ok (.bipush 101, 2) := by decide +kernel
theorem dX5_init_56 : decode cX5_init 56 = .ok (.newarray .int, 2) := by decide +kernel
theorem dX5_init_58 : decode cX5_init 58 = .ok (.putfield 28, 3) := by decide +kernel
theorem dX5_init_61 : decode cX5_init 61 = .ok (.aload_n 0, 1) := by decide +kernel
theorem dX5_init_62 : decode cX5_init 62 = .ok (.bipush 101, 2) := by decide +kernel
theorem dX5_init_64 : decode cX5_init 64 = .ok (.newarray .int, 2) := by decide +kernel
theorem dX5_init_66 : decode cX5_init 66 = .ok (.putfield 31, 3) := by decide +kernel
theorem dX5_init_69 : decode cX5_init 69 = .ok (.aload_n 0, 1) := by decide +kernel
theorem dX5_init_70 : decode cX5_init 70 = .ok (.bipush 101, 2) := by decide +kernel
theorem dX5_init_72 : decode cX5_init 72 = .ok (.newarray .int, 2) := by decide +kernel
theorem dX5_init_74 : decode cX5_init 74 = .ok (.putfield 34, 3) := by decide +kernel
theorem dX5_init_77 : decode cX5_init 77 = .ok (.aload_n 0, 1) := by decide +kernel
theorem dX5_init_78 : decode cX5_init 78 = .ok (.sipush 17069, 3) := by decide +kernel
theorem dX5_init_81 : decode cX5_init 81 = .ok (.newarray .int, 2) := by decide +kernel
theorem dX5_init_83 : decode cX5_init 83 = .ok (.putfield 37, 3) := by decide +kernel
theorem dX5_init_86 : decode cX5_init 86 = .ok (.aload_n 0, 1) := by decide +kernel
theorem dX5_init_87 : decode cX5_init 87 = .ok (.bipush 12, 2) := by decide +kernel
theorem dX5_init_89 : decode cX5_init 89 = .ok (.newarray .int, 2) := by decide +kernel
theorem dX5_init_91 : decode cX5_init 91 = .ok (.putfield 40, 3) := by decide +kernel
theorem dX5_init_94 : decode cX5_init 94 = .ok (.aload_n 0, 1) := by decide +kernel
theorem dX5_init_95 : decode cX5_init 95 = .ok (.bipush 101, 2) := by decide +kernel
theorem dX5_init_97 : decode cX5_init 97 = .ok (.newarray .int, 2) := by decide +kernel
theorem dX5_init_99 : decode cX5_init 99 = .ok (.putfield 43, 3) := by decide +kernel
theorem dX5_init_102 : decode cX5_init 102 = .ok (.aload_n 0, 1) := by decide +kernel
theorem dX5_init_103 : decode cX5_init 103 = .ok (.bipush 101, 2) := by decide +kernel
theorem dX5_init_105 : decode cX5_init 105 = .ok (.newarray .int, 2) := by decide +kernel
theorem dX5_init_107 : decode cX5_init 107 = .ok (.putfield 46, 3) := by decide +kernel
theorem dX5_init_110 : decode cX5_init 110 = .ok (.aload_n 0, 1) := by decide +kernel
theorem dX5_init_111 : decode cX5_init 111 = .ok (.bipush 101, 2) := by decide +kernel
theorem dX5_init_113 : decode cX5_init 113 = .ok (.newarray .int, 2) := by decide +kernel
theorem dX5_init_115 : decode cX5_init 115 = .ok (.putfield 49, 3) := by decide +kernel
theorem dX5_init_118 : decode cX5_init 118 = .ok (.return_, 1) := by decide +kernel
theorem dX5_thrown_0 : decode cX5_thrown 0 = .ok (.aload_n 0, 1) := by decide +kernel
theorem dX5_thrown_1 : decode cX5_thrown 1 = .ok (.getfield 52, 3) := by decide +kernel
theorem dX5_thrown_4 : decode cX5_thrown 4 = .ok (.ireturn, 1) := by decide +kernel
theorem dX5_holds_0 : decode cX5_holds 0 = .ok (.aload_n 0, 1) := by decide +kernel
theorem dX5_holds_1 : decode cX5_holds 1 = .ok (.iload_n 1, 1) := by decide +kernel
theorem dX5_holds_2 : decode cX5_holds 2 = .ok (.putfield 52, 3) := by decide +kernel
theorem dX5_holds_5 : decode cX5_holds 5 = .ok (.iload_n 1, 1) := by decide +kernel
theorem dX5_holds_6 : decode cX5_holds 6 = .ok (.ifCond .ne 7, 3) := by decide +kernel
theorem dX5_holds_9 : decode cX5_holds 9 = .ok (.iconst 1, 1) := by decide +kernel
theorem dX5_holds_10 : decode cX5_holds 10 = .ok (.goto 4, 3) := by decide +kernel
theorem dX5_holds_13 : decode cX5_holds 13 = .ok (.iconst 0, 1) := by decide +kernel
theorem dX5_holds_14 : decode cX5_holds 14 = .ok (.ireturn, 1) := by decide +kernel
theorem dX5_in_0 : decode cX5_in 0 = .ok (.iload_n 0, 1) := by decide +kernel
theorem dX5_in_1 : decode cX5_in 1 = .ok (.iload_n 1, 1) := by decide +kernel
theorem dX5_in_2 : decode cX5_in 2 = .ok (.if_icmp .lt 12, 3) := by decide +kernel
theorem dX5_in_5 : decode cX5_in 5 = .ok (.iload_n 0, 1) := by decide +kernel
theorem dX5_in_6 : decode cX5_in 6 = .ok (.iload_n 2, 1) := by decide +kernel
theorem dX5_in_7 : decode cX5_in 7 = .ok (.if_icmp .gt 7, 3) := by decide +kernel
theorem dX5_in_10 : decode cX5_in 10 = .ok (.iconst 1, 1) := by decide +kernel
theorem dX5_in_11 : decode cX5_in 11 = .ok (.goto 4, 3) := by decide +kernel
theorem dX5_in_14 : decode cX5_in 14 = .ok (.iconst 0, 1) := by decide +kernel
theorem dX5_in_15 : decode cX5_in 15 = .ok (.ireturn, 1) := by decide +kernel
theorem dX5_addRow_0 : decode cX5_addRow 0 = .ok (.iload_n 1, 1) := by decide +kernel
theorem dX5_addRow_1 : decode cX5_addRow 1 = .ok (.iconst 1, 1) := by decide +kernel
theorem dX5_addRow_2 : decode cX5_addRow 2 = .ok (.bipush 20, 2) := by decide +kernel
theorem dX5_addRow_4 : decode cX5_addRow 4 = .ok (.invokestatic 56, 3) := by decide +kernel
theorem dX5_addRow_7 : decode cX5_addRow 7 = .ok (.ifCond .eq 29, 3) := by decide +kernel
theorem dX5_addRow_10 : decode cX5_addRow 10 = .ok (.iload_n 2, 1) := by decide +kernel
theorem dX5_addRow_11 : decode cX5_addRow 11 = .ok (.iconst 0, 1) := by decide +kernel
theorem dX5_addRow_12 : decode cX5_addRow 12 = .ok (.sipush 1000, 3) := by decide +kernel
theorem dX5_addRow_15 : decode cX5_addRow 15 = .ok (.invokestatic 56, 3) := by decide +kernel
theorem dX5_addRow_18 : decode cX5_addRow 18 = .ok (.ifCond .eq 18, 3) := by decide +kernel
theorem dX5_addRow_21 : decode cX5_addRow 21 = .ok (.iload_n 3, 1) := by decide +kernel
theorem dX5_addRow_22 : decode cX5_addRow 22 = .ok (.iconst 0, 1) := by decide +kernel
theorem dX5_addRow_23 : decode cX5_addRow 23 = .ok (.sipush 10000, 3) := by decide +kernel
theorem dX5_addRow_26 : decode cX5_addRow 26 = .ok (.invokestatic 56, 3) := by decide +kernel
theorem dX5_addRow_29 : decode cX5_addRow 29 = .ok (.ifCond .eq 7, 3) := by decide +kernel
theorem dX5_addRow_32 : decode cX5_addRow 32 = .ok (.iconst 1, 1) := by decide +kernel
theorem dX5_addRow_33 : decode cX5_addRow 33 = .ok (.goto 4, 3) := by decide +kernel
theorem dX5_addRow_36 : decode cX5_addRow 36 = .ok (.iconst 0, 1) := by decide +kernel
theorem dX5_addRow_37 : decode cX5_addRow 37 = .ok (.istore 4, 2) := by decide +kernel
theorem dX5_addRow_39 : decode cX5_addRow 39 = .ok (.aload_n 0, 1) := by decide +kernel
theorem dX5_addRow_40 : decode cX5_addRow 40 = .ok (.iload 4, 2) := by decide +kernel
theorem dX5_addRow_42 : decode cX5_addRow 42 = .ok (.ifCond .ne 7, 3) := by decide +kernel
theorem dX5_addRow_45 : decode cX5_addRow 45 = .ok (.iconst 1, 1) := by decide +kernel
theorem dX5_addRow_46 : decode cX5_addRow 46 = .ok (.goto 17, 3) := by decide +kernel
theorem dX5_addRow_49 : decode cX5_addRow 49 = .ok (.aload_n 0, 1) := by decide +kernel
theorem dX5_addRow_50 : decode cX5_addRow 50 = .ok (.getfield 60, 3) := by decide +kernel
theorem dX5_addRow_53 : decode cX5_addRow 53 = .ok (.bipush 12, 2) := by decide +kernel
theorem dX5_addRow_55 : decode cX5_addRow 55 = .ok (.if_icmp .ne 7, 3) := by decide +kernel
theorem dX5_addRow_58 : decode cX5_addRow 58 = .ok (.iconst 2, 1) := by decide +kernel
theorem dX5_addRow_59 : decode cX5_addRow 59 = .ok (.goto 4, 3) := by decide +kernel
theorem dX5_addRow_62 : decode cX5_addRow 62 = .ok (.iconst 0, 1) := by decide +kernel
theorem dX5_addRow_63 : decode cX5_addRow 63 = .ok (.invokevirtual 63, 3) := by decide +kernel
theorem dX5_addRow_66 : decode cX5_addRow 66 = .ok (.ifCond .ne 5, 3) := by decide +kernel
theorem dX5_addRow_69 : decode cX5_addRow 69 = .ok (.iconst 0, 1) := by decide +kernel
theorem dX5_addRow_70 : decode cX5_addRow 70 = .ok (.ireturn, 1) := by decide +kernel
theorem dX5_addRow_71 : decode cX5_addRow 71 = .ok (.aload_n 0, 1) := by decide +kernel
theorem dX5_addRow_72 : decode cX5_addRow 72 = .ok (.getfield 7, 3) := by decide +kernel
theorem dX5_addRow_75 : decode cX5_addRow 75 = .ok (.aload_n 0, 1) := by decide +kernel
theorem dX5_addRow_76 : decode cX5_addRow 76 = .ok (.getfield 60, 3) := by decide +kernel
theorem dX5_addRow_79 : decode cX5_addRow 79 = .ok (.iload_n 1, 1) := by decide +kernel
theorem dX5_addRow_80 : decode cX5_addRow 80 = .ok (.iastore, 1) := by decide +kernel
theorem dX5_addRow_81 : decode cX5_addRow 81 = .ok (.aload_n 0, 1) := by decide +kernel
theorem dX5_addRow_82 : decode cX5_addRow 82 = .ok (.getfield 13, 3) := by decide +kernel
theorem dX5_addRow_85 : decode cX5_addRow 85 = .ok (.aload_n 0, 1) := by decide +kernel
theorem dX5_addRow_86 : decode cX5_addRow 86 = .ok (.getfield 60, 3) := by decide +kernel
theorem dX5_addRow_89 : decode cX5_addRow 89 = .ok (.iload_n 2, 1) := by decide +kernel
theorem dX5_addRow_90 : decode cX5_addRow 90 = .ok (.iastore, 1) := by decide +kernel
theorem dX5_addRow_91 : decode cX5_addRow 91 = .ok (.aload_n 0, 1) := by decide +kernel
theorem dX5_addRow_92 : decode cX5_addRow 92 = .ok (.getfield 16, 3) := by decide +kernel
theorem dX5_addRow_95 : decode cX5_addRow 95 = .ok (.aload_n 0, 1) := by decide +kernel
theorem dX5_addRow_96 : decode cX5_addRow 96 = .ok (.getfield 60, 3) := by decide +kernel
theorem dX5_addRow_99 : decode cX5_addRow 99 = .ok (.iload_n 3, 1) := by decide +kernel
theorem dX5_addRow_100 : decode cX5_addRow 100 = .ok (.iastore, 1) := by decide +kernel
theorem dX5_addRow_101 : decode cX5_addRow 101 = .ok (.aload_n 0, 1) := by decide +kernel
theorem dX5_addRow_102 : decode cX5_addRow 102 = .ok (.dup, 1) := by decide +kernel
theorem dX5_addRow_103 : decode cX5_addRow 103 = .ok (.getfield 60, 3) := by decide +kernel
theorem dX5_addRow_106 : decode cX5_addRow 106 = .ok (.iconst 1, 1) := by decide +kernel
theorem dX5_addRow_107 : decode cX5_addRow 107 = .ok (.iadd, 1) := by decide +kernel
theorem dX5_addRow_108 : decode cX5_addRow 108 = .ok (.putfield 60, 3) := by decide +kernel
theorem dX5_addRow_111 : decode cX5_addRow 111 = .ok (.aload_n 0, 1) := by decide +kernel
theorem dX5_addRow_112 : decode cX5_addRow 112 = .ok (.getfield 60, 3) := by decide +kernel
theorem dX5_addRow_115 : decode cX5_addRow 115 = .ok (.iconst 1, 1) := by decide +kernel
theorem dX5_addRow_116 : decode cX5_addRow 116 = .ok (.isub, 1) := by decide +kernel
theorem dX5_addRow_117 : decode cX5_addRow 117 = .ok (.ireturn, 1) := by decide +kernel
theorem dX5_isRow_0 : decode cX5_isRow 0 = .ok (.iload_n 1, 1) := by decide +kernel
theorem dX5_isRow_1 : decode cX5_isRow 1 = .ok (.iconst 0, 1) := by decide +kernel
theorem dX5_isRow_2 : decode cX5_isRow 2 = .ok (.aload_n 0, 1) := by decide +kernel
theorem dX5_isRow_3 : decode cX5_isRow 3 = .ok (.getfield 60, 3) := by decide +kernel
theorem dX5_isRow_6 : decode cX5_isRow 6 = .ok (.iconst 1, 1) := by decide +kernel
theorem dX5_isRow_7 : decode cX5_isRow 7 = .ok (.isub, 1) := by decide +kernel
theorem dX5_isRow_8 : decode cX5_isRow 8 = .ok (.invokestatic 56, 3) := by decide +kernel
theorem dX5_isRow_11 : decode cX5_isRow 11 = .ok (.ireturn, 1) := by decide +kernel
theorem dX5_isSeat_0 : decode cX5_isSeat 0 = .ok (.aload_n 0, 1) := by decide +kernel
theorem dX5_isSeat_1 : decode cX5_isSeat 1 = .ok (.iload_n 1, 1) := by decide +kernel
theorem dX5_isSeat_2 : decode cX5_isSeat 2 = .ok (.invokevirtual 67, 3) := by decide +kernel
theorem dX5_isSeat_5 : decode cX5_isSeat 5 = .ok (.ifCond .eq 23, 3) := by decide +kernel
theorem dX5_isSeat_8 : decode cX5_isSeat 8 = .ok (.iload_n 2, 1) := by decide +kernel
theorem dX5_isSeat_9 : decode cX5_isSeat 9 = .ok (.iconst 0, 1) := by decide +kernel
theorem dX5_isSeat_10 : decode cX5_isSeat 10 = .ok (.aload_n 0, 1) := by decide +kernel
theorem dX5_isSeat_11 : decode cX5_isSeat 11 = .ok (.getfield 7, 3) := by decide +kernel
theorem dX5_isSeat_14 : decode cX5_isSeat 14 = .ok (.iload_n 1, 1) := by decide +kernel
theorem dX5_isSeat_15 : decode cX5_isSeat 15 = .ok (.iaload, 1) := by decide +kernel
theorem dX5_isSeat_16 : decode cX5_isSeat 16 = .ok (.iconst 1, 1) := by decide +kernel
theorem dX5_isSeat_17 : decode cX5_isSeat 17 = .ok (.isub, 1) := by decide +kernel
theorem dX5_isSeat_18 : decode cX5_isSeat 18 = .ok (.invokestatic 56, 3) := by decide +kernel
theorem dX5_isSeat_21 : decode cX5_isSeat 21 = .ok (.ifCond .eq 7, 3) := by decide +kernel
theorem dX5_isSeat_24 : decode cX5_isSeat 24 = .ok (.iconst 1, 1) := by decide +kernel
theorem dX5_isSeat_25 : decode cX5_isSeat 25 = .ok (.goto 4, 3) := by decide +kernel
theorem dX5_isSeat_28 : decode cX5_isSeat 28 = .ok (.iconst 0, 1) := by decide +kernel
theorem dX5_isSeat_29 : decode cX5_isSeat 29 = .ok (.ireturn, 1) := by decide +kernel
theorem dX5_isFree_0 : decode cX5_isFree 0 = .ok (.aload_n 0, 1) := by decide +kernel
theorem dX5_isFree_1 : decode cX5_isFree 1 = .ok (.iload_n 1, 1) := by decide +kernel
theorem dX5_isFree_2 : decode cX5_isFree 2 = .ok (.iload_n 2, 1) := by decide +kernel
theorem dX5_isFree_3 : decode cX5_isFree 3 = .ok (.invokevirtual 70, 3) := by decide +kernel
theorem dX5_isFree_6 : decode cX5_isFree 6 = .ok (.ifCond .eq 21, 3) := by decide +kernel
theorem dX5_isFree_9 : decode cX5_isFree 9 = .ok (.aload_n 0, 1) := by decide +kernel
theorem dX5_isFree_10 : decode cX5_isFree 10 = .ok (.getfield 19, 3) := by decide +kernel
theorem dX5_isFree_13 : decode cX5_isFree 13 = .ok (.bipush 20, 2) := by decide +kernel
theorem dX5_isFree_15 : decode cX5_isFree 15 = .ok (.iload_n 1, 1) := by decide +kernel
theorem dX5_isFree_16 : decode cX5_isFree 16 = .ok (.imul, 1) := by decide +kernel
theorem dX5_isFree_17 : decode cX5_isFree 17 = .ok (.iload_n 2, 1) := by decide +kernel
theorem dX5_isFree_18 : decode cX5_isFree 18 = .ok (.iadd, 1) := by decide +kernel
theorem dX5_isFree_19 : decode cX5_isFree 19 = .ok (.iaload, 1) := by decide +kernel
theorem dX5_isFree_20 : decode cX5_isFree 20 = .ok (.ifCond .ne 7, 3) := by decide +kernel
theorem dX5_isFree_23 : decode cX5_isFree 23 = .ok (.iconst 1, 1) := by decide +kernel
theorem dX5_isFree_24 : decode cX5_isFree 24 = .ok (.goto 4, 3) := by decide +kernel
theorem dX5_isFree_27 : decode cX5_isFree 27 = .ok (.iconst 0, 1) := by decide +kernel
theorem dX5_isFree_28 : decode cX5_isFree 28 = .ok (.ireturn, 1) := by decide +kernel
theorem dX5_toggleBlocked_0 : decode cX5_toggleBlocked 0 = .ok (.aload_n 0, 1) := by decide +kernel
theorem dX5_toggleBlocked_1 : decode cX5_toggleBlocked 1 = .ok (.aload_n 0, 1) := by decide +kernel
theorem dX5_toggleBlocked_2 : decode cX5_toggleBlocked 2 = .ok (.iload_n 1, 1) := by decide +kernel
theorem dX5_toggleBlocked_3 : decode cX5_toggleBlocked 3 = .ok (.iload_n 2, 1) := by decide +kernel
theorem dX5_toggleBlocked_4 : decode cX5_toggleBlocked 4 = .ok (.invokevirtual 70, 3) := by decide +kernel
theorem dX5_toggleBlocked_7 : decode cX5_toggleBlocked 7 = .ok (.ifCond .ne 7, 3) := by decide +kernel
theorem dX5_toggleBlocked_10 : decode cX5_toggleBlocked 10 = .ok (.iconst 1, 1) := by decide +kernel
theorem dX5_toggleBlocked_11 : decode cX5_toggleBlocked 11 = .ok (.goto 22, 3) := by decide +kernel
theorem dX5_toggleBlocked_14 : decode cX5_toggleBlocked 14 = .ok (.aload_n 0, 1) := by decide +kernel
theorem dX5_toggleBlocked_15 : decode cX5_toggleBlocked 15 = .ok (.getfield 19, 3) := by decide +kernel
theorem dX5_toggleBlocked_18 : decode cX5_toggleBlocked 18 = .ok (.bipush 20, 2) := by decide +kernel
theorem dX5_toggleBlocked_20 : decode cX5_toggleBlocked 20 = .ok (.iload_n 1, 1) := by decide +kernel
theorem dX5_toggleBlocked_21 : decode cX5_toggleBlocked 21 = .ok (.imul, 1) := by decide +kernel
theorem dX5_toggleBlocked_22 : decode cX5_toggleBlocked 22 = .ok (.iload_n 2, 1) := by decide +kernel
theorem dX5_toggleBlocked_23 : decode cX5_toggleBlocked 23 = .ok (.iadd, 1) := by decide +kernel
theorem dX5_toggleBlocked_24 : decode cX5_toggleBlocked 24 = .ok (.iaload, 1) := by decide +kernel
theorem dX5_toggleBlocked_25 : decode cX5_toggleBlocked 25 = .ok (.ifCond .le 7, 3) := by decide +kernel
theorem dX5_toggleBlocked_28 : decode cX5_toggleBlocked 28 = .ok (.iconst 2, 1) := by decide +kernel
theorem dX5_toggleBlocked_29 : decode cX5_toggleBlocked 29 = .ok (.goto 4, 3) := by decide +kernel
theorem dX5_toggleBlocked_32 : decode cX5_toggleBlocked 32 = .ok (.iconst 0, 1) := by decide +kernel
theorem dX5_toggleBlocked_33 : decode cX5_toggleBlocked 33 = .ok (.invokevirtual 63, 3) := by decide +kernel
theorem dX5_toggleBlocked_36 : decode cX5_toggleBlocked 36 = .ok (.ifCond .ne 5, 3) := by decide +kernel
theorem dX5_toggleBlocked_39 : decode cX5_toggleBlocked 39 = .ok (.iconst 0, 1) := by decide +kernel
theorem dX5_toggleBlocked_40 : decode cX5_toggleBlocked 40 = .ok (.ireturn, 1) := by decide +kernel
theorem dX5_toggleBlocked_41 : decode cX5_toggleBlocked 41 = .ok (.aload_n 0, 1) := by decide +kernel
theorem dX5_toggleBlocked_42 : decode cX5_toggleBlocked 42 = .ok (.getfield 19, 3) := by decide +kernel
theorem dX5_toggleBlocked_45 : decode cX5_toggleBlocked 45 = .ok (.bipush 20, 2) := by decide +kernel
theorem dX5_toggleBlocked_47 : decode cX5_toggleBlocked 47 = .ok (.iload_n 1, 1) := by decide +kernel
theorem dX5_toggleBlocked_48 : decode cX5_toggleBlocked 48 = .ok (.imul, 1) := by decide +kernel
theorem dX5_toggleBlocked_49 : decode cX5_toggleBlocked 49 = .ok (.iload_n 2, 1) := by decide +kernel
theorem dX5_toggleBlocked_50 : decode cX5_toggleBlocked 50 = .ok (.iadd, 1) := by decide +kernel
theorem dX5_toggleBlocked_51 : decode cX5_toggleBlocked 51 = .ok (.iaload, 1) := by decide +kernel
theorem dX5_toggleBlocked_52 : decode cX5_toggleBlocked 52 = .ok (.ifCond .ne 7, 3) := by decide +kernel
theorem dX5_toggleBlocked_55 : decode cX5_toggleBlocked 55 = .ok (.iconst 1, 1) := by decide +kernel
theorem dX5_toggleBlocked_56 : decode cX5_toggleBlocked 56 = .ok (.goto 4, 3) := by decide +kernel
theorem dX5_toggleBlocked_59 : decode cX5_toggleBlocked 59 = .ok (.iconst 0, 1) := by decide +kernel
theorem dX5_toggleBlocked_60 : decode cX5_toggleBlocked 60 = .ok (.istore_n 3, 1) := by decide +kernel
theorem dX5_toggleBlocked_61 : decode cX5_toggleBlocked 61 = .ok (.aload_n 0, 1) := by decide +kernel
theorem dX5_toggleBlocked_62 : decode cX5_toggleBlocked 62 = .ok (.getfield 19, 3) := by decide +kernel
theorem dX5_toggleBlocked_65 : decode cX5_toggleBlocked 65 = .ok (.bipush 20, 2) := by decide +kernel
theorem dX5_toggleBlocked_67 : decode cX5_toggleBlocked 67 = .ok (.iload_n 1, 1) := by decide +kernel
theorem dX5_toggleBlocked_68 : decode cX5_toggleBlocked 68 = .ok (.imul, 1) := by decide +kernel
theorem dX5_toggleBlocked_69 : decode cX5_toggleBlocked 69 = .ok (.iload_n 2, 1) := by decide +kernel
theorem dX5_toggleBlocked_70 : decode cX5_toggleBlocked 70 = .ok (.iadd, 1) := by decide +kernel
theorem dX5_toggleBlocked_71 : decode cX5_toggleBlocked 71 = .ok (.iload_n 3, 1) := by decide +kernel
theorem dX5_toggleBlocked_72 : decode cX5_toggleBlocked 72 = .ok (.ifCond .eq 7, 3) := by decide +kernel
theorem dX5_toggleBlocked_75 : decode cX5_toggleBlocked 75 = .ok (.iconst (-1), 1) := by decide +kernel
theorem dX5_toggleBlocked_76 : decode cX5_toggleBlocked 76 = .ok (.goto 4, 3) := by decide +kernel
theorem dX5_toggleBlocked_79 : decode cX5_toggleBlocked 79 = .ok (.iconst 0, 1) := by decide +kernel
theorem dX5_toggleBlocked_80 : decode cX5_toggleBlocked 80 = .ok (.iastore, 1) := by decide +kernel
theorem dX5_toggleBlocked_81 : decode cX5_toggleBlocked 81 = .ok (.iload_n 3, 1) := by decide +kernel
theorem dX5_toggleBlocked_82 : decode cX5_toggleBlocked 82 = .ok (.ireturn, 1) := by decide +kernel
theorem dX5_rows_0 : decode cX5_rows 0 = .ok (.aload_n 0, 1) := by decide +kernel
theorem dX5_rows_1 : decode cX5_rows 1 = .ok (.iconst 0, 1) := by decide +kernel
theorem dX5_rows_2 : decode cX5_rows 2 = .ok (.putfield 52, 3) := by decide +kernel
theorem dX5_rows_5 : decode cX5_rows 5 = .ok (.aload_n 0, 1) := by decide +kernel
theorem dX5_rows_6 : decode cX5_rows 6 = .ok (.getfield 60, 3) := by decide +kernel
theorem dX5_rows_9 : decode cX5_rows 9 = .ok (.ireturn, 1) := by decide +kernel
theorem dX5_state_0 : decode cX5_state 0 = .ok (.aload_n 0, 1) := by decide +kernel
theorem dX5_state_1 : decode cX5_state 1 = .ok (.aload_n 0, 1) := by decide +kernel
theorem dX5_state_2 : decode cX5_state 2 = .ok (.iload_n 1, 1) := by decide +kernel
theorem dX5_state_3 : decode cX5_state 3 = .ok (.iload_n 2, 1) := by decide +kernel
theorem dX5_state_4 : decode cX5_state 4 = .ok (.invokevirtual 70, 3) := by decide +kernel
theorem dX5_state_7 : decode cX5_state 7 = .ok (.ifCond .eq 7, 3) := by decide +kernel
theorem dX5_state_10 : decode cX5_state 10 = .ok (.iconst 0, 1) := by decide +kernel
theorem dX5_state_11 : decode cX5_state 11 = .ok (.goto 4, 3) := by decide +kernel
theorem dX5_state_14 : decode cX5_state 14 = .ok (.iconst 1, 1) := by decide +kernel
theorem dX5_state_15 : decode cX5_state 15 = .ok (.invokevirtual 63, 3) := by decide +kernel
theorem dX5_state_18 : decode cX5_state 18 = .ok (.ifCond .ne 5, 3) := by decide +kernel
theorem dX5_state_21 : decode cX5_state 21 = .ok (.iconst 0, 1) := by decide +kernel
theorem dX5_state_22 : decode cX5_state 22 = .ok (.ireturn, 1) := by decide +kernel
theorem dX5_state_23 : decode cX5_state 23 = .ok (.aload_n 0, 1) := by decide +kernel
theorem dX5_state_24 : decode cX5_state 24 = .ok (.getfield 19, 3) := by decide +kernel
theorem dX5_state_27 : decode cX5_state 27 = .ok (.bipush 20, 2) := by decide +kernel
theorem dX5_state_29 : decode cX5_state 29 = .ok (.iload_n 1, 1) := by decide +kernel
theorem dX5_state_30 : decode cX5_state 30 = .ok (.imul, 1) := by decide +kernel
theorem dX5_state_31 : decode cX5_state 31 = .ok (.iload_n 2, 1) := by decide +kernel
theorem dX5_state_32 : decode cX5_state 32 = .ok (.iadd, 1) := by decide +kernel
theorem dX5_state_33 : decode cX5_state 33 = .ok (.iaload, 1) := by decide +kernel
theorem dX5_state_34 : decode cX5_state 34 = .ok (.istore_n 3, 1) := by decide +kernel
theorem dX5_state_35 : decode cX5_state 35 = .ok (.iload_n 3, 1) := by decide +kernel
theorem dX5_state_36 : decode cX5_state 36 = .ok (.ifCond .ne 7, 3) := by decide +kernel
theorem dX5_state_39 : decode cX5_state 39 = .ok (.iconst 0, 1) := by decide +kernel
theorem dX5_state_40 : decode cX5_state 40 = .ok (.goto 26, 3) := by decide +kernel
theorem dX5_state_43 : decode cX5_state 43 = .ok (.iload_n 3, 1) := by decide +kernel
theorem dX5_state_44 : decode cX5_state 44 = .ok (.iconst (-1), 1) := by decide +kernel
theorem dX5_state_45 : decode cX5_state 45 = .ok (.if_icmp .ne 7, 3) := by decide +kernel
theorem dX5_state_48 : decode cX5_state 48 = .ok (.iconst 3, 1) := by decide +kernel
theorem dX5_state_49 : decode cX5_state 49 = .ok (.goto 17, 3) := by decide +kernel
theorem dX5_state_52 : decode cX5_state 52 = .ok (.aload_n 0, 1) := by decide +kernel
theorem dX5_state_53 : decode cX5_state 53 = .ok (.getfield 22, 3) := by decide +kernel
theorem dX5_state_56 : decode cX5_state 56 = .ok (.iload_n 3, 1) := by decide +kernel
theorem dX5_state_57 : decode cX5_state 57 = .ok (.iaload, 1) := by decide +kernel
theorem dX5_state_58 : decode cX5_state 58 = .ok (.ifCond .ne 7, 3) := by decide +kernel
theorem dX5_state_61 : decode cX5_state 61 = .ok (.iconst 1, 1) := by decide +kernel
theorem dX5_state_62 : decode cX5_state 62 = .ok (.goto 4, 3) := by decide +kernel
theorem dX5_state_65 : decode cX5_state 65 = .ok (.iconst 2, 1) := by decide +kernel
theorem dX5_state_66 : decode cX5_state 66 = .ok (.ireturn, 1) := by decide +kernel
theorem dX5_ticketAt_0 : decode cX5_ticketAt 0 = .ok (.aload_n 0, 1) := by decide +kernel
theorem dX5_ticketAt_1 : decode cX5_ticketAt 1 = .ok (.aload_n 0, 1) := by decide +kernel
theorem dX5_ticketAt_2 : decode cX5_ticketAt 2 = .ok (.iload_n 1, 1) := by decide +kernel
theorem dX5_ticketAt_3 : decode cX5_ticketAt 3 = .ok (.iload_n 2, 1) := by decide +kernel
theorem dX5_ticketAt_4 : decode cX5_ticketAt 4 = .ok (.invokevirtual 70, 3) := by decide +kernel
theorem dX5_ticketAt_7 : decode cX5_ticketAt 7 = .ok (.ifCond .eq 7, 3) := by decide +kernel
theorem dX5_ticketAt_10 : decode cX5_ticketAt 10 = .ok (.iconst 0, 1) := by decide +kernel
theorem dX5_ticketAt_11 : decode cX5_ticketAt 11 = .ok (.goto 4, 3) := by decide +kernel
theorem dX5_ticketAt_14 : decode cX5_ticketAt 14 = .ok (.iconst 1, 1) := by decide +kernel
theorem dX5_ticketAt_15 : decode cX5_ticketAt 15 = .ok (.invokevirtual 63, 3) := by decide +kernel
theorem dX5_ticketAt_18 : decode cX5_ticketAt 18 = .ok (.ifCond .ne 5, 3) := by decide +kernel
theorem dX5_ticketAt_21 : decode cX5_ticketAt 21 = .ok (.iconst 0, 1) := by decide +kernel
theorem dX5_ticketAt_22 : decode cX5_ticketAt 22 = .ok (.ireturn, 1) := by decide +kernel
theorem dX5_ticketAt_23 : decode cX5_ticketAt 23 = .ok (.aload_n 0, 1) := by decide +kernel
theorem dX5_ticketAt_24 : decode cX5_ticketAt 24 = .ok (.getfield 19, 3) := by decide +kernel
theorem dX5_ticketAt_27 : decode cX5_ticketAt 27 = .ok (.bipush 20, 2) := by decide +kernel
theorem dX5_ticketAt_29 : decode cX5_ticketAt 29 = .ok (.iload_n 1, 1) := by decide +kernel
theorem dX5_ticketAt_30 : decode cX5_ticketAt 30 = .ok (.imul, 1) := by decide +kernel
theorem dX5_ticketAt_31 : decode cX5_ticketAt 31 = .ok (.iload_n 2, 1) := by decide +kernel
theorem dX5_ticketAt_32 : decode cX5_ticketAt 32 = .ok (.iadd, 1) := by decide +kernel
theorem dX5_ticketAt_33 : decode cX5_ticketAt 33 = .ok (.iaload, 1) := by decide +kernel
theorem dX5_ticketAt_34 : decode cX5_ticketAt 34 = .ok (.ifCond .le 17, 3) := by decide +kernel
theorem dX5_ticketAt_37 : decode cX5_ticketAt 37 = .ok (.aload_n 0, 1) := by decide +kernel
theorem dX5_ticketAt_38 : decode cX5_ticketAt 38 = .ok (.getfield 19, 3) := by decide +kernel
theorem dX5_ticketAt_41 : decode cX5_ticketAt 41 = .ok (.bipush 20, 2) := by decide +kernel
theorem dX5_ticketAt_43 : decode cX5_ticketAt 43 = .ok (.iload_n 1, 1) := by decide +kernel
theorem dX5_ticketAt_44 : decode cX5_ticketAt 44 = .ok (.imul, 1) := by decide +kernel
theorem dX5_ticketAt_45 : decode cX5_ticketAt 45 = .ok (.iload_n 2, 1) := by decide +kernel
theorem dX5_ticketAt_46 : decode cX5_ticketAt 46 = .ok (.iadd, 1) := by decide +kernel
theorem dX5_ticketAt_47 : decode cX5_ticketAt 47 = .ok (.iaload, 1) := by decide +kernel
theorem dX5_ticketAt_48 : decode cX5_ticketAt 48 = .ok (.goto 4, 3) := by decide +kernel
theorem dX5_ticketAt_51 : decode cX5_ticketAt 51 = .ok (.iconst 0, 1) := by decide +kernel
theorem dX5_ticketAt_52 : decode cX5_ticketAt 52 = .ok (.ireturn, 1) := by decide +kernel
theorem dX5_worth_0 : decode cX5_worth 0 = .ok (.iconst 2, 1) := by decide +kernel
theorem dX5_worth_1 : decode cX5_worth 1 = .ok (.iload_n 2, 1) := by decide +kernel
theorem dX5_worth_2 : decode cX5_worth 2 = .ok (.imul, 1) := by decide +kernel
theorem dX5_worth_3 : decode cX5_worth 3 = .ok (.aload_n 0, 1) := by decide +kernel
theorem dX5_worth_4 : decode cX5_worth 4 = .ok (.getfield 7, 3) := by decide +kernel
theorem dX5_worth_7 : decode cX5_worth 7 = .ok (.iload_n 1, 1) := by decide +kernel
theorem dX5_worth_8 : decode cX5_worth 8 = .ok (.iaload, 1) := by decide +kernel
theorem dX5_worth_9 : decode cX5_worth 9 = .ok (.isub, 1) := by decide +kernel
theorem dX5_worth_10 : decode cX5_worth 10 = .ok (.iconst 1, 1) := by decide +kernel
theorem dX5_worth_11 : decode cX5_worth 11 = .ok (.iadd, 1) := by decide +kernel
theorem dX5_worth_12 : decode cX5_worth 12 = .ok (.istore_n 3, 1) := by decide +kernel
theorem dX5_worth_13 : decode cX5_worth 13 = .ok (.aload_n 0, 1) := by decide +kernel
theorem dX5_worth_14 : decode cX5_worth 14 = .ok (.getfield 13, 3) := by decide +kernel
theorem dX5_worth_17 : decode cX5_worth 17 = .ok (.iload_n 1, 1) := by decide +kernel
theorem dX5_worth_18 : decode cX5_worth 18 = .ok (.iaload, 1) := by decide +kernel
theorem dX5_worth_19 : decode cX5_worth 19 = .ok (.iload_n 3, 1) := by decide +kernel
theorem dX5_worth_20 : decode cX5_worth 20 = .ok (.ifCond .ge 8, 3) := by decide +kernel
theorem dX5_worth_23 : decode cX5_worth 23 = .ok (.iload_n 3, 1) := by decide +kernel
theorem dX5_worth_24 : decode cX5_worth 24 = .ok (.ineg, 1) := by decide +kernel
theorem dX5_worth_25 : decode cX5_worth 25 = .ok (.goto 4, 3) := by decide +kernel
theorem dX5_worth_28 : decode cX5_worth 28 = .ok (.iload_n 3, 1) := by decide +kernel
theorem dX5_worth_29 : decode cX5_worth 29 = .ok (.isub, 1) := by decide +kernel
theorem dX5_worth_30 : decode cX5_worth 30 = .ok (.ireturn, 1) := by decide +kernel
theorem dX5_value_0 : decode cX5_value 0 = .ok (.aload_n 0, 1) := by decide +kernel
theorem dX5_value_1 : decode cX5_value 1 = .ok (.aload_n 0, 1) := by decide +kernel
theorem dX5_value_2 : decode cX5_value 2 = .ok (.iload_n 1, 1) := by decide +kernel
theorem dX5_value_3 : decode cX5_value 3 = .ok (.iload_n 2, 1) := by decide +kernel
theorem dX5_value_4 : decode cX5_value 4 = .ok (.invokevirtual 70, 3) := by decide +kernel
theorem dX5_value_7 : decode cX5_value 7 = .ok (.ifCond .eq 7, 3) := by decide +kernel
theorem dX5_value_10 : decode cX5_value 10 = .ok (.iconst 0, 1) := by decide +kernel
theorem dX5_value_11 : decode cX5_value 11 = .ok (.goto 4, 3) := by decide +kernel
theorem dX5_value_14 : decode cX5_value 14 = .ok (.iconst 1, 1) := by decide +kernel
theorem dX5_value_15 : decode cX5_value 15 = .ok (.invokevirtual 63, 3) := by decide +kernel
theorem dX5_value_18 : decode cX5_value 18 = .ok (.ifCond .eq 12, 3) := by decide +kernel
theorem dX5_value_21 : decode cX5_value 21 = .ok (.aload_n 0, 1) := by decide +kernel
theorem dX5_value_22 : decode cX5_value 22 = .ok (.iload_n 1, 1) := by decide +kernel
theorem dX5_value_23 : decode cX5_value 23 = .ok (.iload_n 2, 1) := by decide +kernel
theorem dX5_value_24 : decode cX5_value 24 = .ok (.invokevirtual 74, 3) := by decide +kernel
theorem dX5_value_27 : decode cX5_value 27 = .ok (.goto 4, 3) := by decide +kernel
theorem dX5_value_30 : decode cX5_value 30 = .ok (.iconst 0, 1) := by decide +kernel
theorem dX5_value_31 : decode cX5_value 31 = .ok (.ireturn, 1) := by decide +kernel
theorem dX5_frees_0 : decode cX5_frees 0 = .ok (.iconst 0, 1) := by decide +kernel
theorem dX5_frees_1 : decode cX5_frees 1 = .ok (.istore_n 2, 1) := by decide +kernel
theorem dX5_frees_2 : decode cX5_frees 2 = .ok (.iconst 0, 1) := by decide +kernel
theorem dX5_frees_3 : decode cX5_frees 3 = .ok (.istore_n 3, 1) := by decide +kernel
theorem dX5_frees_4 : decode cX5_frees 4 = .ok (.iload_n 3, 1) := by decide +kernel
theorem dX5_frees_5 : decode cX5_frees 5 = .ok (.aload_n 0, 1) := by decide +kernel
theorem dX5_frees_6 : decode cX5_frees 6 = .ok (.getfield 7, 3) := by decide +kernel
theorem dX5_frees_9 : decode cX5_frees 9 = .ok (.iload_n 1, 1) := by decide +kernel
theorem dX5_frees_10 : decode cX5_frees 10 = .ok (.iaload, 1) := by decide +kernel
theorem dX5_frees_11 : decode cX5_frees 11 = .ok (.if_icmp .ge 26, 3) := by decide +kernel
theorem dX5_frees_14 : decode cX5_frees 14 = .ok (.iload_n 2, 1) := by decide +kernel
theorem dX5_frees_15 : decode cX5_frees 15 = .ok (.aload_n 0, 1) := by decide +kernel
theorem dX5_frees_16 : decode cX5_frees 16 = .ok (.iload_n 1, 1) := by decide +kernel
theorem dX5_frees_17 : decode cX5_frees 17 = .ok (.iload_n 3, 1) := by decide +kernel
theorem dX5_frees_18 : decode cX5_frees 18 = .ok (.invokevirtual 78, 3) := by decide +kernel
theorem dX5_frees_21 : decode cX5_frees 21 = .ok (.ifCond .eq 7, 3) := by decide +kernel
theorem dX5_frees_24 : decode cX5_frees 24 = .ok (.iconst 1, 1) := by decide +kernel
theorem dX5_frees_25 : decode cX5_frees 25 = .ok (.goto 4, 3) := by decide +kernel
theorem dX5_frees_28 : decode cX5_frees 28 = .ok (.iconst 0, 1) := by decide +kernel
theorem dX5_frees_29 : decode cX5_frees 29 = .ok (.iadd, 1) := by decide +kernel
theorem dX5_frees_30 : decode cX5_frees 30 = .ok (.istore_n 2, 1) := by decide +kernel
theorem dX5_frees_31 : decode cX5_frees 31 = .ok (.iinc 3 1, 3) := by decide +kernel
theorem dX5_frees_34 : decode cX5_frees 34 = .ok (.goto (-30), 3) := by decide +kernel
theorem dX5_frees_37 : decode cX5_frees 37 = .ok (.iload_n 2, 1) := by decide +kernel
theorem dX5_frees_38 : decode cX5_frees 38 = .ok (.ireturn, 1) := by decide +kernel
theorem dX5_freeSeats_0 : decode cX5_freeSeats 0 = .ok (.aload_n 0, 1) := by decide +kernel
theorem dX5_freeSeats_1 : decode cX5_freeSeats 1 = .ok (.aload_n 0, 1) := by decide +kernel
theorem dX5_freeSeats_2 : decode cX5_freeSeats 2 = .ok (.iload_n 1, 1) := by decide +kernel
theorem dX5_freeSeats_3 : decode cX5_freeSeats 3 = .ok (.invokevirtual 67, 3) := by decide +kernel
theorem dX5_freeSeats_6 : decode cX5_freeSeats 6 = .ok (.ifCond .eq 7, 3) := by decide +kernel
theorem dX5_freeSeats_9 : decode cX5_freeSeats 9 = .ok (.iconst 0, 1) := by decide +kernel
theorem dX5_freeSeats_10 : decode cX5_freeSeats 10 = .ok (.goto 4, 3) := by decide +kernel
theorem dX5_freeSeats_13 : decode cX5_freeSeats 13 = .ok (.iconst 1, 1) := by decide +kernel
theorem dX5_freeSeats_14 : decode cX5_freeSeats 14 = .ok (.invokevirtual 63, 3) := by decide +kernel
theorem dX5_freeSeats_17 : decode cX5_freeSeats 17 = .ok (.ifCond .eq 11, 3) := by decide +kernel
theorem dX5_freeSeats_20 : decode cX5_freeSeats 20 = .ok (.aload_n 0, 1) := by decide +kernel
theorem dX5_freeSeats_21 : decode cX5_freeSeats 21 = .ok (.iload_n 1, 1) := by decide +kernel
theorem dX5_freeSeats_22 : decode cX5_freeSeats 22 = .ok (.invokevirtual 81, 3) := by decide +kernel
theorem dX5_freeSeats_25 : decode cX5_freeSeats 25 = .ok (.goto 4, 3) := by decide +kernel
theorem dX5_freeSeats_28 : decode cX5_freeSeats 28 = .ok (.iconst 0, 1) := by decide +kernel
theorem dX5_freeSeats_29 : decode cX5_freeSeats 29 = .ok (.ireturn, 1) := by decide +kernel
theorem dX5_orphans_0 : decode cX5_orphans 0 = .ok (.aload_n 0, 1) := by decide +kernel
theorem dX5_orphans_1 : decode cX5_orphans 1 = .ok (.iconst 0, 1) := by decide +kernel
theorem dX5_orphans_2 : decode cX5_orphans 2 = .ok (.putfield 52, 3) := by decide +kernel
theorem dX5_orphans_5 : decode cX5_orphans 5 = .ok (.iconst 0, 1) := by decide +kernel
theorem dX5_orphans_6 : decode cX5_orphans 6 = .ok (.istore_n 1, 1) := by decide +kernel
theorem dX5_orphans_7 : decode cX5_orphans 7 = .ok (.iconst 0, 1) := by decide +kernel
theorem dX5_orphans_8 : decode cX5_orphans 8 = .ok (.istore_n 2, 1) := by decide +kernel
theorem dX5_orphans_9 : decode cX5_orphans 9 = .ok (.iload_n 2, 1) := by decide +kernel
theorem dX5_orphans_10 : decode cX5_orphans 10 = .ok (.aload_n 0, 1) := by decide +kernel
theorem dX5_orphans_11 : decode cX5_orphans 11 = .ok (.getfield 60, 3) := by decide +kernel
theorem dX5_orphans_14 : decode cX5_orphans 14 = .ok (.if_icmp .ge 66, 3) := by decide +kernel
theorem dX5_orphans_17 : decode cX5_orphans 17 = .ok (.iconst 0, 1) := by decide +kernel
theorem dX5_orphans_18 : decode cX5_orphans 18 = .ok (.istore_n 3, 1) := by decide +kernel
theorem dX5_orphans_19 : decode cX5_orphans 19 = .ok (.iload_n 3, 1) := by decide +kernel
theorem dX5_orphans_20 : decode cX5_orphans 20 = .ok (.aload_n 0, 1) := by decide +kernel
theorem dX5_orphans_21 : decode cX5_orphans 21 = .ok (.getfield 7, 3) := by decide +kernel
theorem dX5_orphans_24 : decode cX5_orphans 24 = .ok (.iload_n 2, 1) := by decide +kernel
theorem dX5_orphans_25 : decode cX5_orphans 25 = .ok (.iaload, 1) := by decide +kernel
theorem dX5_orphans_26 : decode cX5_orphans 26 = .ok (.if_icmp .ge 48, 3) := by decide +kernel
theorem dX5_orphans_29 : decode cX5_orphans 29 = .ok (.iload_n 1, 1) := by decide +kernel
theorem dX5_orphans_30 : decode cX5_orphans 30 = .ok (.aload_n 0, 1) := by decide +kernel
theorem dX5_orphans_31 : decode cX5_orphans 31 = .ok (.iload_n 2, 1) := by decide +kernel
theorem dX5_orphans_32 : decode cX5_orphans 32 = .ok (.iload_n 3, 1) := by decide +kernel
theorem dX5_orphans_33 : decode cX5_orphans 33 = .ok (.invokevirtual 78, 3) := by decide +kernel
theorem dX5_orphans_36 : decode cX5_orphans 36 = .ok (.ifCond .eq 29, 3) := by decide +kernel
theorem dX5_orphans_39 : decode cX5_orphans 39 = .ok (.aload_n 0, 1) := by decide +kernel
theorem dX5_orphans_40 : decode cX5_orphans 40 = .ok (.iload_n 2, 1) := by decide +kernel
theorem dX5_orphans_41 : decode cX5_orphans 41 = .ok (.iload_n 3, 1) := by decide +kernel
theorem dX5_orphans_42 : decode cX5_orphans 42 = .ok (.iconst 1, 1) := by decide +kernel
theorem dX5_orphans_43 : decode cX5_orphans 43 = .ok (.isub, 1) := by decide +kernel
theorem dX5_orphans_44 : decode cX5_orphans 44 = .ok (.invokevirtual 78, 3) := by decide +kernel
theorem dX5_orphans_47 : decode cX5_orphans 47 = .ok (.ifCond .ne 18, 3) := by decide +kernel
theorem dX5_orphans_50 : decode cX5_orphans 50 = .ok (.aload_n 0, 1) := by decide +kernel
theorem dX5_orphans_51 : decode cX5_orphans 51 = .ok (.iload_n 2, 1) := by decide +kernel
theorem dX5_orphans_52 : decode cX5_orphans 52 = .ok (.iload_n 3, 1) := by decide +kernel
theorem dX5_orphans_53 : decode cX5_orphans 53 = .ok (.iconst 1, 1) := by decide +kernel
theorem dX5_orphans_54 : decode cX5_orphans 54 = .ok (.iadd, 1) := by decide +kernel
theorem dX5_orphans_55 : decode cX5_orphans 55 = .ok (.invokevirtual 78, 3) := by decide +kernel
theorem dX5_orphans_58 : decode cX5_orphans 58 = .ok (.ifCond .ne 7, 3) := by decide +kernel
theorem dX5_orphans_61 : decode cX5_orphans 61 = .ok (.iconst 1, 1) := by decide +kernel
theorem dX5_orphans_62 : decode cX5_orphans 62 = .ok (.goto 4, 3) := by decide +kernel
theorem dX5_orphans_65 : decode cX5_orphans 65 = .ok (.iconst 0, 1) := by decide +kernel
theorem dX5_orphans_66 : decode cX5_orphans 66 = .ok (.iadd, 1) := by decide +kernel
theorem dX5_orphans_67 : decode cX5_orphans 67 = .ok (.istore_n 1, 1) := by decide +kernel
theorem dX5_orphans_68 : decode cX5_orphans 68 = .ok (.iinc 3 1, 3) := by decide +kernel
theorem dX5_orphans_71 : decode cX5_orphans 71 = .ok (.goto (-52), 3) := by decide +kernel
theorem dX5_orphans_74 : decode cX5_orphans 74 = .ok (.iinc 2 1, 3) := by decide +kernel
theorem dX5_orphans_77 : decode cX5_orphans 77 = .ok (.goto (-68), 3) := by decide +kernel
theorem dX5_orphans_80 : decode cX5_orphans 80 = .ok (.iload_n 1, 1) := by decide +kernel
theorem dX5_orphans_81 : decode cX5_orphans 81 = .ok (.ireturn, 1) := by decide +kernel
theorem dX5_run_0 : decode cX5_run 0 = .ok (.iconst 0, 1) := by decide +kernel
theorem dX5_run_1 : decode cX5_run 1 = .ok (.istore_n 3, 1) := by decide +kernel
theorem dX5_run_2 : decode cX5_run 2 = .ok (.aload_n 0, 1) := by decide +kernel
theorem dX5_run_3 : decode cX5_run 3 = .ok (.iload_n 1, 1) := by decide +kernel
theorem dX5_run_4 : decode cX5_run 4 = .ok (.iload_n 2, 1) := by decide +kernel
theorem dX5_run_5 : decode cX5_run 5 = .ok (.iload_n 3, 1) := by decide +kernel
theorem dX5_run_6 : decode cX5_run 6 = .ok (.iadd, 1) := by decide +kernel
theorem dX5_run_7 : decode cX5_run 7 = .ok (.invokevirtual 78, 3) := by decide +kernel
theorem dX5_run_10 : decode cX5_run 10 = .ok (.ifCond .eq 9, 3) := by decide +kernel
theorem dX5_run_13 : decode cX5_run 13 = .ok (.iinc 3 1, 3) := by decide +kernel
theorem dX5_run_16 : decode cX5_run 16 = .ok (.goto (-14), 3) := by decide +kernel
theorem dX5_run_19 : decode cX5_run 19 = .ok (.iload_n 3, 1) := by decide +kernel
theorem dX5_run_20 : decode cX5_run 20 = .ok (.ireturn, 1) := by decide +kernel
theorem dX5_longestBlock_0 : decode cX5_longestBlock 0 = .ok (.aload_n 0, 1) := by decide +kernel
theorem dX5_longestBlock_1 : decode cX5_longestBlock 1 = .ok (.iconst 0, 1) := by decide +kernel
theorem dX5_longestBlock_2 : decode cX5_longestBlock 2 = .ok (.putfield 52, 3) := by decide +kernel
theorem dX5_longestBlock_5 : decode cX5_longestBlock 5 = .ok (.iconst 0, 1) := by decide +kernel
theorem dX5_longestBlock_6 : decode cX5_longestBlock 6 = .ok (.istore_n 1, 1) := by decide +kernel
theorem dX5_longestBlock_7 : decode cX5_longestBlock 7 = .ok (.iconst 0, 1) := by decide +kernel
theorem dX5_longestBlock_8 : decode cX5_longestBlock 8 = .ok (.istore_n 2, 1) := by decide +kernel
theorem dX5_longestBlock_9 : decode cX5_longestBlock 9 = .ok (.iload_n 2, 1) := by decide +kernel
theorem dX5_longestBlock_10 : decode cX5_longestBlock 10 = .ok (.aload_n 0, 1) := by decide +kernel
theorem dX5_longestBlock_11 : decode cX5_longestBlock 11 = .ok (.getfield 60, 3) := by decide +kernel
theorem dX5_longestBlock_14 : decode cX5_longestBlock 14 = .ok (.if_icmp .ge 48, 3) := by decide +kernel
theorem dX5_longestBlock_17 : decode cX5_longestBlock 17 = .ok (.iconst 0, 1) := by decide +kernel
theorem dX5_longestBlock_18 : decode cX5_longestBlock 18 = .ok (.istore_n 3, 1) := by decide +kernel
theorem dX5_longestBlock_19 : decode cX5_longestBlock 19 = .ok (.iload_n 3, 1) := by decide +kernel
theorem dX5_longestBlock_20 : decode cX5_longestBlock 20 = .ok (.aload_n 0, 1) := by decide +kernel
theorem dX5_longestBlock_21 : decode cX5_longestBlock 21 = .ok (.getfield 7, 3) := by decide +kernel
theorem dX5_longestBlock_24 : decode cX5_longestBlock 24 = .ok (.iload_n 2, 1) := by decide +kernel
theorem dX5_longestBlock_25 : decode cX5_longestBlock 25 = .ok (.iaload, 1) := by decide +kernel
theorem dX5_longestBlock_26 : decode cX5_longestBlock 26 = .ok (.if_icmp .ge 30, 3) := by decide +kernel
theorem dX5_longestBlock_29 : decode cX5_longestBlock 29 = .ok (.aload_n 0, 1) := by decide +kernel
theorem dX5_longestBlock_30 : decode cX5_longestBlock 30 = .ok (.iload_n 2, 1) := by decide +kernel
theorem dX5_longestBlock_31 : decode cX5_longestBlock 31 = .ok (.iload_n 3, 1) := by decide +kernel
theorem dX5_longestBlock_32 : decode cX5_longestBlock 32 = .ok (.invokevirtual 85, 3) := by decide +kernel
theorem dX5_longestBlock_35 : decode cX5_longestBlock 35 = .ok (.iload_n 1, 1) := by decide +kernel
theorem dX5_longestBlock_36 : decode cX5_longestBlock 36 = .ok (.if_icmp .le 12, 3) := by decide +kernel
theorem dX5_longestBlock_39 : decode cX5_longestBlock 39 = .ok (.aload_n 0, 1) := by decide +kernel
theorem dX5_longestBlock_40 : decode cX5_longestBlock 40 = .ok (.iload_n 2, 1) := by decide +kernel
theorem dX5_longestBlock_41 : decode cX5_longestBlock 41 = .ok (.iload_n 3, 1) := by decide +kernel
theorem dX5_longestBlock_42 : decode cX5_longestBlock 42 = .ok (.invokevirtual 85, 3) := by decide +kernel
theorem dX5_longestBlock_45 : decode cX5_longestBlock 45 = .ok (.goto 4, 3) := by decide +kernel
theorem dX5_longestBlock_48 : decode cX5_longestBlock 48 = .ok (.iload_n 1, 1) := by decide +kernel
theorem dX5_longestBlock_49 : decode cX5_longestBlock 49 = .ok (.istore_n 1, 1) := by decide +kernel
theorem dX5_longestBlock_50 : decode cX5_longestBlock 50 = .ok (.iinc 3 1, 3) := by decide +kernel
theorem dX5_longestBlock_53 : decode cX5_longestBlock 53 = .ok (.goto (-34), 3) := by decide +kernel
theorem dX5_longestBlock_56 : decode cX5_longestBlock 56 = .ok (.iinc 2 1, 3) := by decide +kernel
theorem dX5_longestBlock_59 : decode cX5_longestBlock 59 = .ok (.goto (-50), 3) := by decide +kernel
theorem dX5_longestBlock_62 : decode cX5_longestBlock 62 = .ok (.iload_n 1, 1) := by decide +kernel
theorem dX5_longestBlock_63 : decode cX5_longestBlock 63 = .ok (.ireturn, 1) := by decide +kernel
theorem dX5_sum_0 : decode cX5_sum 0 = .ok (.iconst 0, 1) := by decide +kernel
theorem dX5_sum_1 : decode cX5_sum 1 = .ok (.istore 4, 2) := by decide +kernel
theorem dX5_sum_3 : decode cX5_sum 3 = .ok (.iload_n 2, 1) := by decide +kernel
theorem dX5_sum_4 : decode cX5_sum 4 = .ok (.istore 5, 2) := by decide +kernel
theorem dX5_sum_6 : decode cX5_sum 6 = .ok (.iload 5, 2) := by decide +kernel
theorem dX5_sum_8 : decode cX5_sum 8 = .ok (.iload_n 2, 1) := by decide +kernel
theorem dX5_sum_9 : decode cX5_sum 9 = .ok (.iload_n 3, 1) := by decide +kernel
theorem dX5_sum_10 : decode cX5_sum 10 = .ok (.iadd, 1) := by decide +kernel
theorem dX5_sum_11 : decode cX5_sum 11 = .ok (.if_icmp .ge 21, 3) := by decide +kernel
theorem dX5_sum_14 : decode cX5_sum 14 = .ok (.iload 4, 2) := by decide +kernel
theorem dX5_sum_16 : decode cX5_sum 16 = .ok (.aload_n 0, 1) := by decide +kernel
theorem dX5_sum_17 : decode cX5_sum 17 = .ok (.iload_n 1, 1) := by decide +kernel
theorem dX5_sum_18 : decode cX5_sum 18 = .ok (.iload 5, 2) := by decide +kernel
theorem dX5_sum_20 : decode cX5_sum 20 = .ok (.invokevirtual 74, 3) := by decide +kernel
theorem dX5_sum_23 : decode cX5_sum 23 = .ok (.iadd, 1) := by decide +kernel
theorem dX5_sum_24 : decode cX5_sum 24 = .ok (.istore 4, 2) := by decide +kernel
theorem dX5_sum_26 : decode cX5_sum 26 = .ok (.iinc 5 1, 3) := by decide +kernel
theorem dX5_sum_29 : decode cX5_sum 29 = .ok (.goto (-23), 3) := by decide +kernel
theorem dX5_sum_32 : decode cX5_sum 32 = .ok (.iload 4, 2) := by decide +kernel
theorem dX5_sum_34 : decode cX5_sum 34 = .ok (.ireturn, 1) := by decide +kernel
theorem dX5_hasOrphan_0 : decode cX5_hasOrphan 0 = .ok (.aload_n 0, 1) := by decide +kernel
theorem dX5_hasOrphan_1 : decode cX5_hasOrphan 1 = .ok (.iload_n 1, 1) := by decide +kernel
theorem dX5_hasOrphan_2 : decode cX5_hasOrphan 2 = .ok (.iload_n 2, 1) := by decide +kernel
theorem dX5_hasOrphan_3 : decode cX5_hasOrphan 3 = .ok (.iconst 1, 1) := by decide +kernel
theorem dX5_hasOrphan_4 : decode cX5_hasOrphan 4 = .ok (.isub, 1) := by decide +kernel
theorem dX5_hasOrphan_5 : decode cX5_hasOrphan 5 = .ok (.invokevirtual 78, 3) := by decide +kernel
theorem dX5_hasOrphan_8 : decode cX5_hasOrphan 8 = .ok (.ifCond .eq 18, 3) := by decide +kernel
theorem dX5_hasOrphan_11 : decode cX5_hasOrphan 11 = .ok (.aload_n 0, 1) := by decide +kernel
theorem dX5_hasOrphan_12 : decode cX5_hasOrphan 12 = .ok (.iload_n 1, 1) := by decide +kernel
theorem dX5_hasOrphan_13 : decode cX5_hasOrphan 13 = .ok (.iload_n 2, 1) := by decide +kernel
theorem dX5_hasOrphan_14 : decode cX5_hasOrphan 14 = .ok (.iconst 2, 1) := by decide +kernel
theorem dX5_hasOrphan_15 : decode cX5_hasOrphan 15 = .ok (.isub, 1) := by decide +kernel
theorem dX5_hasOrphan_16 : decode cX5_hasOrphan 16 = .ok (.invokevirtual 78, 3) := by decide +kernel
theorem dX5_hasOrphan_19 : decode cX5_hasOrphan 19 = .ok (.ifCond .ne 7, 3) := by decide +kernel
theorem dX5_hasOrphan_22 : decode cX5_hasOrphan 22 = .ok (.iconst 1, 1) := by decide +kernel
theorem dX5_hasOrphan_23 : decode cX5_hasOrphan 23 = .ok (.goto 4, 3) := by decide +kernel
theorem dX5_hasOrphan_26 : decode cX5_hasOrphan 26 = .ok (.iconst 0, 1) := by decide +kernel
theorem dX5_hasOrphan_27 : decode cX5_hasOrphan 27 = .ok (.istore 4, 2) := by decide +kernel
theorem dX5_hasOrphan_29 : decode cX5_hasOrphan 29 = .ok (.aload_n 0, 1) := by decide +kernel
theorem dX5_hasOrphan_30 : decode cX5_hasOrphan 30 = .ok (.iload_n 1, 1) := by decide +kernel
theorem dX5_hasOrphan_31 : decode cX5_hasOrphan 31 = .ok (.iload_n 2, 1) := by decide +kernel
theorem dX5_hasOrphan_32 : decode cX5_hasOrphan 32 = .ok (.iload_n 3, 1) := by decide +kernel
theorem dX5_hasOrphan_33 : decode cX5_hasOrphan 33 = .ok (.iadd, 1) := by decide +kernel
theorem dX5_hasOrphan_34 : decode cX5_hasOrphan 34 = .ok (.invokevirtual 78, 3) := by decide +kernel
theorem dX5_hasOrphan_37 : decode cX5_hasOrphan 37 = .ok (.ifCond .eq 20, 3) := by decide +kernel
theorem dX5_hasOrphan_40 : decode cX5_hasOrphan 40 = .ok (.aload_n 0, 1) := by decide +kernel
theorem dX5_hasOrphan_41 : decode cX5_hasOrphan 41 = .ok (.iload_n 1, 1) := by decide +kernel
theorem dX5_hasOrphan_42 : decode cX5_hasOrphan 42 = .ok (.iload_n 2, 1) := by decide +kernel
theorem dX5_hasOrphan_43 : decode cX5_hasOrphan 43 = .ok (.iload_n 3, 1) := by decide +kernel
theorem dX5_hasOrphan_44 : decode cX5_hasOrphan 44 = .ok (.iadd, 1) := by decide +kernel
theorem dX5_hasOrphan_45 : decode cX5_hasOrphan 45 = .ok (.iconst 1, 1) := by decide +kernel
theorem dX5_hasOrphan_46 : decode cX5_hasOrphan 46 = .ok (.iadd, 1) := by decide +kernel
theorem dX5_hasOrphan_47 : decode cX5_hasOrphan 47 = .ok (.invokevirtual 78, 3) := by decide +kernel
theorem dX5_hasOrphan_50 : decode cX5_hasOrphan 50 = .ok (.ifCond .ne 7, 3) := by decide +kernel
theorem dX5_hasOrphan_53 : decode cX5_hasOrphan 53 = .ok (.iconst 1, 1) := by decide +kernel
theorem dX5_hasOrphan_54 : decode cX5_hasOrphan 54 = .ok (.goto 4, 3) := by decide +kernel
theorem dX5_hasOrphan_57 : decode cX5_hasOrphan 57 = .ok (.iconst 0, 1) := by decide +kernel
theorem dX5_hasOrphan_58 : decode cX5_hasOrphan 58 = .ok (.istore 5, 2) := by decide +kernel
theorem dX5_hasOrphan_60 : decode cX5_hasOrphan 60 = .ok (.iload 4, 2) := by decide +kernel
theorem dX5_hasOrphan_62 : decode cX5_hasOrphan 62 = .ok (.ifCond .ne 8, 3) := by decide +kernel
theorem dX5_hasOrphan_65 : decode cX5_hasOrphan 65 = .ok (.iload 5, 2) := by decide +kernel
theorem dX5_hasOrphan_67 : decode cX5_hasOrphan 67 = .ok (.ifCond .eq 7, 3) := by decide +kernel
theorem dX5_hasOrphan_70 : decode cX5_hasOrphan 70 = .ok (.iconst 1, 1) := by decide +kernel
theorem dX5_hasOrphan_71 : decode cX5_hasOrphan 71 = .ok (.goto 4, 3) := by decide +kernel
theorem dX5_hasOrphan_74 : decode cX5_hasOrphan 74 = .ok (.iconst 0, 1) := by decide +kernel
theorem dX5_hasOrphan_75 : decode cX5_hasOrphan 75 = .ok (.ireturn, 1) := by decide +kernel
theorem dX5_firstIn_0 : decode cX5_firstIn 0 = .ok (.iconst (-1), 1) := by decide +kernel
theorem dX5_firstIn_1 : decode cX5_firstIn 1 = .ok (.istore 4, 2) := by decide +kernel
theorem dX5_firstIn_3 : decode cX5_firstIn 3 = .ok (.iconst 0, 1) := by decide +kernel
theorem dX5_firstIn_4 : decode cX5_firstIn 4 = .ok (.istore 5, 2) := by decide +kernel
theorem dX5_firstIn_6 : decode cX5_firstIn 6 = .ok (.iload 5, 2) := by decide +kernel
theorem dX5_firstIn_8 : decode cX5_firstIn 8 = .ok (.iload_n 2, 1) := by decide +kernel
theorem dX5_firstIn_9 : decode cX5_firstIn 9 = .ok (.iadd, 1) := by decide +kernel
theorem dX5_firstIn_10 : decode cX5_firstIn 10 = .ok (.aload_n 0, 1) := by decide +kernel
theorem dX5_firstIn_11 : decode cX5_firstIn 11 = .ok (.getfield 7, 3) := by decide +kernel
theorem dX5_firstIn_14 : decode cX5_firstIn 14 = .ok (.iload_n 1, 1) := by decide +kernel
theorem dX5_firstIn_15 : decode cX5_firstIn 15 = .ok (.iaload, 1) := by decide +kernel
theorem dX5_firstIn_16 : decode cX5_firstIn 16 = .ok (.if_icmp .gt 68, 3) := by decide +kernel
theorem dX5_firstIn_19 : decode cX5_firstIn 19 = .ok (.aload_n 0, 1) := by decide +kernel
theorem dX5_firstIn_20 : decode cX5_firstIn 20 = .ok (.iload_n 1, 1) := by decide +kernel
theorem dX5_firstIn_21 : decode cX5_firstIn 21 = .ok (.iload 5, 2) := by decide +kernel
theorem dX5_firstIn_23 : decode cX5_firstIn 23 = .ok (.invokevirtual 85, 3) := by decide +kernel
theorem dX5_firstIn_26 : decode cX5_firstIn 26 = .ok (.iload_n 2, 1) := by decide +kernel
theorem dX5_firstIn_27 : decode cX5_firstIn 27 = .ok (.if_icmp .lt 51, 3) := by decide +kernel
theorem dX5_firstIn_30 : decode cX5_firstIn 30 = .ok (.iload_n 3, 1) := by decide +kernel
theorem dX5_firstIn_31 : decode cX5_firstIn 31 = .ok (.ifCond .eq 14, 3) := by decide +kernel
theorem dX5_firstIn_34 : decode cX5_firstIn 34 = .ok (.aload_n 0, 1) := by decide +kernel
theorem dX5_firstIn_35 : decode cX5_firstIn 35 = .ok (.iload_n 1, 1) := by decide +kernel
theorem dX5_firstIn_36 : decode cX5_firstIn 36 = .ok (.iload 5, 2) := by decide +kernel
theorem dX5_firstIn_38 : decode cX5_firstIn 38 = .ok (.iload_n 2, 1) := by decide +kernel
theorem dX5_firstIn_39 : decode cX5_firstIn 39 = .ok (.invokevirtual 88, 3) := by decide +kernel
theorem dX5_firstIn_42 : decode cX5_firstIn 42 = .ok (.ifCond .ne 36, 3) := by decide +kernel
theorem dX5_firstIn_45 : decode cX5_firstIn 45 = .ok (.iload 4, 2) := by decide +kernel
theorem dX5_firstIn_47 : decode cX5_firstIn 47 = .ok (.ifCond .lt 22, 3) := by decide +kernel
theorem dX5_firstIn_50 : decode cX5_firstIn 50 = .ok (.aload_n 0, 1) := by decide +kernel
theorem dX5_firstIn_51 : decode cX5_firstIn 51 = .ok (.iload_n 1, 1) := by decide +kernel
theorem dX5_firstIn_52 : decode cX5_firstIn 52 = .ok (.iload 5, 2) := by decide +kernel
theorem dX5_firstIn_54 : decode cX5_firstIn 54 = .ok (.iload_n 2, 1) := by decide +kernel
theorem dX5_firstIn_55 : decode cX5_firstIn 55 = .ok (.invokevirtual 91, 3) := by decide +kernel
theorem dX5_firstIn_58 : decode cX5_firstIn 58 = .ok (.aload_n 0, 1) := by decide +kernel
theorem dX5_firstIn_59 : decode cX5_firstIn 59 = .ok (.iload_n 1, 1) := by decide +kernel
theorem dX5_firstIn_60 : decode cX5_firstIn 60 = .ok (.iload 4, 2) := by decide +kernel
theorem dX5_firstIn_62 : decode cX5_firstIn 62 = .ok (.iload_n 2, 1) := by decide +kernel
theorem dX5_firstIn_63 : decode cX5_firstIn 63 = .ok (.invokevirtual 91, 3) := by decide +kernel
theorem dX5_firstIn_66 : decode cX5_firstIn 66 = .ok (.if_icmp .le 8, 3) := by decide +kernel
theorem dX5_firstIn_69 : decode cX5_firstIn 69 = .ok (.iload 5, 2) := by decide +kernel
theorem dX5_firstIn_71 : decode cX5_firstIn 71 = .ok (.goto 5, 3) := by decide +kernel
theorem dX5_firstIn_74 : decode cX5_firstIn 74 = .ok (.iload 4, 2) := by decide +kernel
theorem dX5_firstIn_76 : decode cX5_firstIn 76 = .ok (.istore 4, 2) := by decide +kernel
theorem dX5_firstIn_78 : decode cX5_firstIn 78 = .ok (.iinc 5 1, 3) := by decide +kernel
theorem dX5_firstIn_81 : decode cX5_firstIn 81 = .ok (.goto (-75), 3) := by decide +kernel
theorem dX5_firstIn_84 : decode cX5_firstIn 84 = .ok (.iload 4, 2) := by decide +kernel
theorem dX5_firstIn_86 : decode cX5_firstIn 86 = .ok (.ireturn, 1) := by decide +kernel
theorem dX5_bestOf_0 : decode cX5_bestOf 0 = .ok (.iconst (-1), 1) := by decide +kernel
theorem dX5_bestOf_1 : decode cX5_bestOf 1 = .ok (.istore_n 3, 1) := by decide +kernel
theorem dX5_bestOf_2 : decode cX5_bestOf 2 = .ok (.iconst 0, 1) := by decide +kernel
theorem dX5_bestOf_3 : decode cX5_bestOf 3 = .ok (.istore 4, 2) := by decide +kernel
theorem dX5_bestOf_5 : decode cX5_bestOf 5 = .ok (.iconst 0, 1) := by decide +kernel
theorem dX5_bestOf_6 : decode cX5_bestOf 6 = .ok (.istore 5, 2) := by decide +kernel
theorem dX5_bestOf_8 : decode cX5_bestOf 8 = .ok (.iload 5, 2) := by decide +kernel
theorem dX5_bestOf_10 : decode cX5_bestOf 10 = .ok (.aload_n 0, 1) := by decide +kernel
theorem dX5_bestOf_11 : decode cX5_bestOf 11 = .ok (.getfield 60, 3) := by decide +kernel
theorem dX5_bestOf_14 : decode cX5_bestOf 14 = .ok (.if_icmp .ge 68, 3) := by decide +kernel
theorem dX5_bestOf_17 : decode cX5_bestOf 17 = .ok (.aload_n 0, 1) := by decide +kernel
theorem dX5_bestOf_18 : decode cX5_bestOf 18 = .ok (.iload 5, 2) := by decide +kernel
theorem dX5_bestOf_20 : decode cX5_bestOf 20 = .ok (.iload_n 1, 1) := by decide +kernel
theorem dX5_bestOf_21 : decode cX5_bestOf 21 = .ok (.iload_n 2, 1) := by decide +kernel
theorem dX5_bestOf_22 : decode cX5_bestOf 22 = .ok (.invokevirtual 95, 3) := by decide +kernel
theorem dX5_bestOf_25 : decode cX5_bestOf 25 = .ok (.istore 6, 2) := by decide +kernel
theorem dX5_bestOf_27 : decode cX5_bestOf 27 = .ok (.iload 6, 2) := by decide +kernel
theorem dX5_bestOf_29 : decode cX5_bestOf 29 = .ok (.ifCond .ge 7, 3) := by decide +kernel
theorem dX5_bestOf_32 : decode cX5_bestOf 32 = .ok (.iconst 0, 1) := by decide +kernel
theorem dX5_bestOf_33 : decode cX5_bestOf 33 = .ok (.goto 12, 3) := by decide +kernel
theorem dX5_bestOf_36 : decode cX5_bestOf 36 = .ok (.aload_n 0, 1) := by decide +kernel
theorem dX5_bestOf_37 : decode cX5_bestOf 37 = .ok (.iload 5, 2) := by decide +kernel
theorem dX5_bestOf_39 : decode cX5_bestOf 39 = .ok (.iload 6, 2) := by decide +kernel
theorem dX5_bestOf_41 : decode cX5_bestOf 41 = .ok (.iload_n 1, 1) := by decide +kernel
theorem dX5_bestOf_42 : decode cX5_bestOf 42 = .ok (.invokevirtual 91, 3) := by decide +kernel
theorem dX5_bestOf_45 : decode cX5_bestOf 45 = .ok (.istore 7, 2) := by decide +kernel
theorem dX5_bestOf_47 : decode cX5_bestOf 47 = .ok (.iload 6, 2) := by decide +kernel
theorem dX5_bestOf_49 : decode cX5_bestOf 49 = .ok (.ifCond .lt 27, 3) := by decide +kernel
theorem dX5_bestOf_52 : decode cX5_bestOf 52 = .ok (.iload_n 3, 1) := by decide +kernel
theorem dX5_bestOf_53 : decode cX5_bestOf 53 = .ok (.ifCond .lt 10, 3) := by decide +kernel
theorem dX5_bestOf_56 : decode cX5_bestOf 56 = .ok (.iload 7, 2) := by decide +kernel
theorem dX5_bestOf_58 : decode cX5_bestOf 58 = .ok (.iload 4, 2) := by decide +kernel
theorem dX5_bestOf_60 : decode cX5_bestOf 60 = .ok (.if_icmp .le 16, 3) := by decide +kernel
theorem dX5_bestOf_63 : decode cX5_bestOf 63 = .ok (.bipush 100, 2) := by decide +kernel
theorem dX5_bestOf_65 : decode cX5_bestOf 65 = .ok (.iload 5, 2) := by decide +kernel
theorem dX5_bestOf_67 : decode cX5_bestOf 67 = .ok (.imul, 1) := by decide +kernel
theorem dX5_bestOf_68 : decode cX5_bestOf 68 = .ok (.iload 6, 2) := by decide +kernel
theorem dX5_bestOf_70 : decode cX5_bestOf 70 = .ok (.iadd, 1) := by decide +kernel
theorem dX5_bestOf_71 : decode cX5_bestOf 71 = .ok (.istore_n 3, 1) := by decide +kernel
theorem dX5_bestOf_72 : decode cX5_bestOf 72 = .ok (.iload 7, 2) := by decide +kernel
theorem dX5_bestOf_74 : decode cX5_bestOf 74 = .ok (.istore 4, 2) := by decide +kernel
theorem dX5_bestOf_76 : decode cX5_bestOf 76 = .ok (.iinc 5 1, 3) := by decide +kernel
theorem dX5_bestOf_79 : decode cX5_bestOf 79 = .ok (.goto (-71), 3) := by decide +kernel
theorem dX5_bestOf_82 : decode cX5_bestOf 82 = .ok (.iload_n 3, 1) := by decide +kernel
theorem dX5_bestOf_83 : decode cX5_bestOf 83 = .ok (.ireturn, 1) := by decide +kernel
theorem dX5_best_0 : decode cX5_best 0 = .ok (.aload_n 0, 1) := by decide +kernel
theorem dX5_best_1 : decode cX5_best 1 = .ok (.iload_n 1, 1) := by decide +kernel
theorem dX5_best_2 : decode cX5_best 2 = .ok (.iconst 1, 1) := by decide +kernel
theorem dX5_best_3 : decode cX5_best 3 = .ok (.invokevirtual 99, 3) := by decide +kernel
theorem dX5_best_6 : decode cX5_best 6 = .ok (.istore_n 2, 1) := by decide +kernel
theorem dX5_best_7 : decode cX5_best 7 = .ok (.iload_n 2, 1) := by decide +kernel
theorem dX5_best_8 : decode cX5_best 8 = .ok (.ifCond .ge 12, 3) := by decide +kernel
theorem dX5_best_11 : decode cX5_best 11 = .ok (.aload_n 0, 1) := by decide +kernel
theorem dX5_best_12 : decode cX5_best 12 = .ok (.iload_n 1, 1) := by decide +kernel
theorem dX5_best_13 : decode cX5_best 13 = .ok (.iconst 0, 1) := by decide +kernel
theorem dX5_best_14 : decode cX5_best 14 = .ok (.invokevirtual 99, 3) := by decide +kernel
theorem dX5_best_17 : decode cX5_best 17 = .ok (.goto 4, 3) := by decide +kernel
theorem dX5_best_20 : decode cX5_best 20 = .ok (.iload_n 2, 1) := by decide +kernel
theorem dX5_best_21 : decode cX5_best 21 = .ok (.ireturn, 1) := by decide +kernel
theorem dX5_bestBlock_0 : decode cX5_bestBlock 0 = .ok (.iload_n 1, 1) := by decide +kernel
theorem dX5_bestBlock_1 : decode cX5_bestBlock 1 = .ok (.iconst 1, 1) := by decide +kernel
theorem dX5_bestBlock_2 : decode cX5_bestBlock 2 = .ok (.bipush 20, 2) := by decide +kernel
theorem dX5_bestBlock_4 : decode cX5_bestBlock 4 = .ok (.invokestatic 56, 3) := by decide +kernel
theorem dX5_bestBlock_7 : decode cX5_bestBlock 7 = .ok (.ifCond .eq 11, 3) := by decide +kernel
theorem dX5_bestBlock_10 : decode cX5_bestBlock 10 = .ok (.aload_n 0, 1) := by decide +kernel
theorem dX5_bestBlock_11 : decode cX5_bestBlock 11 = .ok (.iload_n 1, 1) := by decide +kernel
theorem dX5_bestBlock_12 : decode cX5_bestBlock 12 = .ok (.invokevirtual 103, 3) := by decide +kernel
theorem dX5_bestBlock_15 : decode cX5_bestBlock 15 = .ok (.goto 4, 3) := by decide +kernel
theorem dX5_bestBlock_18 : decode cX5_bestBlock 18 = .ok (.iconst (-1), 1) := by decide +kernel
theorem dX5_bestBlock_19 : decode cX5_bestBlock 19 = .ok (.istore_n 2, 1) := by decide +kernel
theorem dX5_bestBlock_20 : decode cX5_bestBlock 20 = .ok (.aload_n 0, 1) := by decide +kernel
theorem dX5_bestBlock_21 : decode cX5_bestBlock 21 = .ok (.iload_n 1, 1) := by decide +kernel
theorem dX5_bestBlock_22 : decode cX5_bestBlock 22 = .ok (.iconst 1, 1) := by decide +kernel
theorem dX5_bestBlock_23 : decode cX5_bestBlock 23 = .ok (.bipush 20, 2) := by decide +kernel
theorem dX5_bestBlock_25 : decode cX5_bestBlock 25 = .ok (.invokestatic 56, 3) := by decide +kernel
theorem dX5_bestBlock_28 : decode cX5_bestBlock 28 = .ok (.ifCond .ne 7, 3) := by decide +kernel
theorem dX5_bestBlock_31 : decode cX5_bestBlock 31 = .ok (.iconst 1, 1) := by decide +kernel
theorem dX5_bestBlock_32 : decode cX5_bestBlock 32 = .ok (.goto 12, 3) := by decide +kernel
theorem dX5_bestBlock_35 : decode cX5_bestBlock 35 = .ok (.iload_n 2, 1) := by decide +kernel
theorem dX5_bestBlock_36 : decode cX5_bestBlock 36 = .ok (.ifCond .ge 7, 3) := by decide +kernel
theorem dX5_bestBlock_39 : decode cX5_bestBlock 39 = .ok (.iconst 2, 1) := by decide +kernel
theorem dX5_bestBlock_40 : decode cX5_bestBlock 40 = .ok (.goto 4, 3) := by decide +kernel
theorem dX5_bestBlock_43 : decode cX5_bestBlock 43 = .ok (.iconst 0, 1) := by decide +kernel
theorem dX5_bestBlock_44 : decode cX5_bestBlock 44 = .ok (.invokevirtual 63, 3) := by decide +kernel
theorem dX5_bestBlock_47 : decode cX5_bestBlock 47 = .ok (.ifCond .eq 7, 3) := by decide +kernel
theorem dX5_bestBlock_50 : decode cX5_bestBlock 50 = .ok (.iload_n 2, 1) := by decide +kernel
theorem dX5_bestBlock_51 : decode cX5_bestBlock 51 = .ok (.goto 4, 3) := by decide +kernel
theorem dX5_bestBlock_54 : decode cX5_bestBlock 54 = .ok (.iconst 0, 1) := by decide +kernel
theorem dX5_bestBlock_55 : decode cX5_bestBlock 55 = .ok (.ireturn, 1) := by decide +kernel
theorem dX5_leavesOrphan_0 : decode cX5_leavesOrphan 0 = .ok (.iload_n 1, 1) := by decide +kernel
theorem dX5_leavesOrphan_1 : decode cX5_leavesOrphan 1 = .ok (.iconst 1, 1) := by decide +kernel
theorem dX5_leavesOrphan_2 : decode cX5_leavesOrphan 2 = .ok (.bipush 20, 2) := by decide +kernel
theorem dX5_leavesOrphan_4 : decode cX5_leavesOrphan 4 = .ok (.invokestatic 56, 3) := by decide +kernel
theorem dX5_leavesOrphan_7 : decode cX5_leavesOrphan 7 = .ok (.ifCond .eq 11, 3) := by decide +kernel
theorem dX5_leavesOrphan_10 : decode cX5_leavesOrphan 10 = .ok (.aload_n 0, 1) := by decide +kernel
theorem dX5_leavesOrphan_11 : decode cX5_leavesOrphan 11 = .ok (.iload_n 1, 1) := by decide +kernel
theorem dX5_leavesOrphan_12 : decode cX5_leavesOrphan 12 = .ok (.invokevirtual 103, 3) := by decide +kernel
theorem dX5_leavesOrphan_15 : decode cX5_leavesOrphan 15 = .ok (.goto 4, 3) := by decide +kernel
theorem dX5_leavesOrphan_18 : decode cX5_leavesOrphan 18 = .ok (.iconst (-1), 1) := by decide +kernel
theorem dX5_leavesOrphan_19 : decode cX5_leavesOrphan 19 = .ok (.istore_n 2, 1) := by decide +kernel
theorem dX5_leavesOrphan_20 : decode cX5_leavesOrphan 20 = .ok (.aload_n 0, 1) := by decide +kernel
theorem dX5_leavesOrphan_21 : decode cX5_leavesOrphan 21 = .ok (.iload_n 1, 1) := by decide +kernel
theorem dX5_leavesOrphan_22 : decode cX5_leavesOrphan 22 = .ok (.iconst 1, 1) := by decide +kernel
theorem dX5_leavesOrphan_23 : decode cX5_leavesOrphan 23 = .ok (.bipush 20, 2) := by decide +kernel
theorem dX5_leavesOrphan_25 : decode cX5_leavesOrphan 25 = .ok (.invokestatic 56, 3) := by decide +kernel
theorem dX5_leavesOrphan_28 : decode cX5_leavesOrphan 28 = .ok (.ifCond .ne 7, 3) := by decide +kernel
theorem dX5_leavesOrphan_31 : decode cX5_leavesOrphan 31 = .ok (.iconst 1, 1) := by decide +kernel
theorem dX5_leavesOrphan_32 : decode cX5_leavesOrphan 32 = .ok (.goto 12, 3) := by decide +kernel
theorem dX5_leavesOrphan_35 : decode cX5_leavesOrphan 35 = .ok (.iload_n 2, 1) := by decide +kernel
theorem dX5_leavesOrphan_36 : decode cX5_leavesOrphan 36 = .ok (.ifCond .ge 7, 3) := by decide +kernel
theorem dX5_leavesOrphan_39 : decode cX5_leavesOrphan 39 = .ok (.iconst 2, 1) := by decide +kernel
theorem dX5_leavesOrphan_40 : decode cX5_leavesOrphan 40 = .ok (.goto 4, 3) := by decide +kernel
theorem dX5_leavesOrphan_43 : decode cX5_leavesOrphan 43 = .ok (.iconst 0, 1) := by decide +kernel
theorem dX5_leavesOrphan_44 : decode cX5_leavesOrphan 44 = .ok (.invokevirtual 63, 3) := by decide +kernel
theorem dX5_leavesOrphan_47 : decode cX5_leavesOrphan 47 = .ok (.ifCond .eq 23, 3) := by decide +kernel
theorem dX5_leavesOrphan_50 : decode cX5_leavesOrphan 50 = .ok (.aload_n 0, 1) := by decide +kernel
theorem dX5_leavesOrphan_51 : decode cX5_leavesOrphan 51 = .ok (.iload_n 2, 1) := by decide +kernel
theorem dX5_leavesOrphan_52 : decode cX5_leavesOrphan 52 = .ok (.bipush 100, 2) := by decide +kernel
theorem dX5_leavesOrphan_54 : decode cX5_leavesOrphan 54 = .ok (.idiv, 1) := by decide +kernel
theorem dX5_leavesOrphan_55 : decode cX5_leavesOrphan 55 = .ok (.iload_n 2, 1) := by decide +kernel
theorem dX5_leavesOrphan_56 : decode cX5_leavesOrphan 56 = .ok (.bipush 100, 2) := by decide +kernel
theorem dX5_leavesOrphan_58 : decode cX5_leavesOrphan 58 = .ok (.irem, 1) := by decide +kernel
theorem dX5_leavesOrphan_59 : decode cX5_leavesOrphan 59 = .ok (.iload_n 1, 1) := by decide +kernel
theorem dX5_leavesOrphan_60 : decode cX5_leavesOrphan 60 = .ok (.invokevirtual 88, 3) := by decide +kernel
theorem dX5_leavesOrphan_63 : decode cX5_leavesOrphan 63 = .ok (.ifCond .eq 7, 3) := by decide +kernel
theorem dX5_leavesOrphan_66 : decode cX5_leavesOrphan 66 = .ok (.iconst 1, 1) := by decide +kernel
theorem dX5_leavesOrphan_67 : decode cX5_leavesOrphan 67 = .ok (.goto 4, 3) := by decide +kernel
theorem dX5_leavesOrphan_70 : decode cX5_leavesOrphan 70 = .ok (.iconst 0, 1) := by decide +kernel
theorem dX5_leavesOrphan_71 : decode cX5_leavesOrphan 71 = .ok (.ireturn, 1) := by decide +kernel
theorem dX5_owns_0 : decode cX5_owns 0 = .ok (.iload_n 2, 1) := by decide +kernel
theorem dX5_owns_1 : decode cX5_owns 1 = .ok (.istore 5, 2) := by decide +kernel
theorem dX5_owns_3 : decode cX5_owns 3 = .ok (.iload 5, 2) := by decide +kernel
theorem dX5_owns_5 : decode cX5_owns 5 = .ok (.iload_n 2, 1) := by decide +kernel
theorem dX5_owns_6 : decode cX5_owns 6 = .ok (.iload_n 3, 1) := by decide +kernel
theorem dX5_owns_7 : decode cX5_owns 7 = .ok (.iadd, 1) := by decide +kernel
theorem dX5_owns_8 : decode cX5_owns 8 = .ok (.if_icmp .ge 23, 3) := by decide +kernel
theorem dX5_owns_11 : decode cX5_owns 11 = .ok (.aload_n 0, 1) := by decide +kernel
theorem dX5_owns_12 : decode cX5_owns 12 = .ok (.getfield 19, 3) := by decide +kernel
theorem dX5_owns_15 : decode cX5_owns 15 = .ok (.bipush 20, 2) := by decide +kernel
theorem dX5_owns_17 : decode cX5_owns 17 = .ok (.iload_n 1, 1) := by decide +kernel
theorem dX5_owns_18 : decode cX5_owns 18 = .ok (.imul, 1) := by decide +kernel
theorem dX5_owns_19 : decode cX5_owns 19 = .ok (.iload 5, 2) := by decide +kernel
theorem dX5_owns_21 : decode cX5_owns 21 = .ok (.iadd, 1) := by decide +kernel
theorem dX5_owns_22 : decode cX5_owns 22 = .ok (.iload 4, 2) := by decide +kernel
theorem dX5_owns_24 : decode cX5_owns 24 = .ok (.iastore, 1) := by decide +kernel
theorem dX5_owns_25 : decode cX5_owns 25 = .ok (.iinc 5 1, 3) := by decide +kernel
theorem dX5_owns_28 : decode cX5_owns 28 = .ok (.goto (-25), 3) := by decide +kernel
theorem dX5_owns_31 : decode cX5_owns 31 = .ok (.return_, 1) := by decide +kernel
theorem dX5_grants_0 : decode cX5_grants 0 = .ok (.aload_n 0, 1) := by decide +kernel
theorem dX5_grants_1 : decode cX5_grants 1 = .ok (.dup, 1) := by decide +kernel
theorem dX5_grants_2 : decode cX5_grants 2 = .ok (.getfield 106, 3) := by decide +kernel
theorem dX5_grants_5 : decode cX5_grants 5 = .ok (.iconst 1, 1) := by decide +kernel
theorem dX5_grants_6 : decode cX5_grants 6 = .ok (.iadd, 1) := by decide +kernel
theorem dX5_grants_7 : decode cX5_grants 7 = .ok (.putfield 106, 3) := by decide +kernel
theorem dX5_grants_10 : decode cX5_grants 10 = .ok (.aload_n 0, 1) := by decide +kernel
theorem dX5_grants_11 : decode cX5_grants 11 = .ok (.getfield 22, 3) := by decide +kernel
theorem dX5_grants_14 : decode cX5_grants 14 = .ok (.aload_n 0, 1) := by decide +kernel
theorem dX5_grants_15 : decode cX5_grants 15 = .ok (.getfield 106, 3) := by decide +kernel
theorem dX5_grants_18 : decode cX5_grants 18 = .ok (.iconst 0, 1) := by decide +kernel
theorem dX5_grants_19 : decode cX5_grants 19 = .ok (.iastore, 1) := by decide +kernel
theorem dX5_grants_20 : decode cX5_grants 20 = .ok (.aload_n 0, 1) := by decide +kernel
theorem dX5_grants_21 : decode cX5_grants 21 = .ok (.getfield 25, 3) := by decide +kernel
theorem dX5_grants_24 : decode cX5_grants 24 = .ok (.aload_n 0, 1) := by decide +kernel
theorem dX5_grants_25 : decode cX5_grants 25 = .ok (.getfield 106, 3) := by decide +kernel
theorem dX5_grants_28 : decode cX5_grants 28 = .ok (.aload_n 0, 1) := by decide +kernel
theorem dX5_grants_29 : decode cX5_grants 29 = .ok (.getfield 109, 3) := by decide +kernel
theorem dX5_grants_32 : decode cX5_grants 32 = .ok (.iload_n 1, 1) := by decide +kernel
theorem dX5_grants_33 : decode cX5_grants 33 = .ok (.iadd, 1) := by decide +kernel
theorem dX5_grants_34 : decode cX5_grants 34 = .ok (.iastore, 1) := by decide +kernel
theorem dX5_grants_35 : decode cX5_grants 35 = .ok (.aload_n 0, 1) := by decide +kernel
theorem dX5_grants_36 : decode cX5_grants 36 = .ok (.getfield 34, 3) := by decide +kernel
theorem dX5_grants_39 : decode cX5_grants 39 = .ok (.aload_n 0, 1) := by decide +kernel
theorem dX5_grants_40 : decode cX5_grants 40 = .ok (.getfield 106, 3) := by decide +kernel
theorem dX5_grants_43 : decode cX5_grants 43 = .ok (.iconst (-1), 1) := by decide +kernel
theorem dX5_grants_44 : decode cX5_grants 44 = .ok (.iastore, 1) := by decide +kernel
theorem dX5_grants_45 : decode cX5_grants 45 = .ok (.aload_n 0, 1) := by decide +kernel
theorem dX5_grants_46 : decode cX5_grants 46 = .ok (.getfield 106, 3) := by decide +kernel
theorem dX5_grants_49 : decode cX5_grants 49 = .ok (.ireturn, 1) := by decide +kernel
theorem dX5_isMinutes_0 : decode cX5_isMinutes 0 = .ok (.iload_n 0, 1) := by decide +kernel
theorem dX5_isMinutes_1 : decode cX5_isMinutes 1 = .ok (.iconst 1, 1) := by decide +kernel
theorem dX5_isMinutes_2 : decode cX5_isMinutes 2 = .ok (.sipush 200, 3) := by decide +kernel
theorem dX5_isMinutes_5 : decode cX5_isMinutes 5 = .ok (.invokestatic 56, 3) := by decide +kernel
theorem dX5_isMinutes_8 : decode cX5_isMinutes 8 = .ok (.ireturn, 1) := by decide +kernel
theorem dX5_hold_0 : decode cX5_hold 0 = .ok (.iload_n 1, 1) := by decide +kernel
theorem dX5_hold_1 : decode cX5_hold 1 = .ok (.iconst 1, 1) := by decide +kernel
theorem dX5_hold_2 : decode cX5_hold 2 = .ok (.bipush 20, 2) := by decide +kernel
theorem dX5_hold_4 : decode cX5_hold 4 = .ok (.invokestatic 56, 3) := by decide +kernel
theorem dX5_hold_7 : decode cX5_hold 7 = .ok (.ifCond .eq 14, 3) := by decide +kernel
theorem dX5_hold_10 : decode cX5_hold 10 = .ok (.iload_n 2, 1) := by decide +kernel
theorem dX5_hold_11 : decode cX5_hold 11 = .ok (.invokestatic 112, 3) := by decide +kernel
theorem dX5_hold_14 : decode cX5_hold 14 = .ok (.ifCond .eq 7, 3) := by decide +kernel
theorem dX5_hold_17 : decode cX5_hold 17 = .ok (.iconst 1, 1) := by decide +kernel
theorem dX5_hold_18 : decode cX5_hold 18 = .ok (.goto 4, 3) := by decide +kernel
theorem dX5_hold_21 : decode cX5_hold 21 = .ok (.iconst 0, 1) := by decide +kernel
theorem dX5_hold_22 : decode cX5_hold 22 = .ok (.istore_n 3, 1) := by decide +kernel
theorem dX5_hold_23 : decode cX5_hold 23 = .ok (.iload_n 3, 1) := by decide +kernel
theorem dX5_hold_24 : decode cX5_hold 24 = .ok (.ifCond .eq 11, 3) := by decide +kernel
theorem dX5_hold_27 : decode cX5_hold 27 = .ok (.aload_n 0, 1) := by decide +kernel
theorem dX5_hold_28 : decode cX5_hold 28 = .ok (.iload_n 1, 1) := by decide +kernel
theorem dX5_hold_29 : decode cX5_hold 29 = .ok (.invokevirtual 103, 3) := by decide +kernel
theorem dX5_hold_32 : decode cX5_hold 32 = .ok (.goto 4, 3) := by decide +kernel
theorem dX5_hold_35 : decode cX5_hold 35 = .ok (.iconst (-1), 1) := by decide +kernel
theorem dX5_hold_36 : decode cX5_hold 36 = .ok (.istore 4, 2) := by decide +kernel
theorem dX5_hold_38 : decode cX5_hold 38 = .ok (.aload_n 0, 1) := by decide +kernel
theorem dX5_hold_39 : decode cX5_hold 39 = .ok (.iload_n 3, 1) := by decide +kernel
theorem dX5_hold_40 : decode cX5_hold 40 = .ok (.ifCond .ne 7, 3) := by decide +kernel
theorem dX5_hold_43 : decode cX5_hold 43 = .ok (.iconst 1, 1) := by decide +kernel
theorem dX5_hold_44 : decode cX5_hold 44 = .ok (.goto 22, 3) := by decide +kernel
theorem dX5_hold_47 : decode cX5_hold 47 = .ok (.iload 4, 2) := by decide +kernel
theorem dX5_hold_49 : decode cX5_hold 49 = .ok (.ifCond .lt 12, 3) := by decide +kernel
theorem dX5_hold_52 : decode cX5_hold 52 = .ok (.aload_n 0, 1) := by decide +kernel
theorem dX5_hold_53 : decode cX5_hold 53 = .ok (.getfield 106, 3) := by decide +kernel
theorem dX5_hold_56 : decode cX5_hold 56 = .ok (.bipush 100, 2) := by decide +kernel
theorem dX5_hold_58 : decode cX5_hold 58 = .ok (.if_icmp .ne 7, 3) := by decide +kernel
theorem dX5_hold_61 : decode cX5_hold 61 = .ok (.iconst 2, 1) := by decide +kernel
theorem dX5_hold_62 : decode cX5_hold 62 = .ok (.goto 4, 3) := by decide +kernel
theorem dX5_hold_65 : decode cX5_hold 65 = .ok (.iconst 0, 1) := by decide +kernel
theorem dX5_hold_66 : decode cX5_hold 66 = .ok (.invokevirtual 63, 3) := by decide +kernel
theorem dX5_hold_69 : decode cX5_hold 69 = .ok (.ifCond .ne 5, 3) := by decide +kernel
theorem dX5_hold_72 : decode cX5_hold 72 = .ok (.iconst 0, 1) := by decide +kernel
theorem dX5_hold_73 : decode cX5_hold 73 = .ok (.ireturn, 1) := by decide +kernel
theorem dX5_hold_74 : decode cX5_hold 74 = .ok (.aload_n 0, 1) := by decide +kernel
theorem dX5_hold_75 : decode cX5_hold 75 = .ok (.iload 4, 2) := by decide +kernel
theorem dX5_hold_77 : decode cX5_hold 77 = .ok (.bipush 100, 2) := by decide +kernel
theorem dX5_hold_79 : decode cX5_hold 79 = .ok (.idiv, 1) := by decide +kernel
theorem dX5_hold_80 : decode cX5_hold 80 = .ok (.iload 4, 2) := by decide +kernel
theorem dX5_hold_82 : decode cX5_hold 82 = .ok (.bipush 100, 2) := by decide +kernel
theorem dX5_hold_84 : decode cX5_hold 84 = .ok (.irem, 1) := by decide +kernel
theorem dX5_hold_85 : decode cX5_hold 85 = .ok (.iload_n 1, 1) := by decide +kernel
theorem dX5_hold_86 : decode cX5_hold 86 = .ok (.aload_n 0, 1) := by decide +kernel
theorem dX5_hold_87 : decode cX5_hold 87 = .ok (.iload_n 2, 1) := by decide +kernel
theorem dX5_hold_88 : decode cX5_hold 88 = .ok (.invokevirtual 115, 3) := by decide +kernel
theorem dX5_hold_91 : decode cX5_hold 91 = .ok (.invokevirtual 118, 3) := by decide +kernel
theorem dX5_hold_94 : decode cX5_hold 94 = .ok (.aload_n 0, 1) := by decide +kernel
theorem dX5_hold_95 : decode cX5_hold 95 = .ok (.getfield 106, 3) := by decide +kernel
theorem dX5_hold_98 : decode cX5_hold 98 = .ok (.ireturn, 1) := by decide +kernel
theorem dX5_holdAt_0 : decode cX5_holdAt 0 = .ok (.iload_n 3, 1) := by decide +kernel
theorem dX5_holdAt_1 : decode cX5_holdAt 1 = .ok (.iconst 1, 1) := by decide +kernel
theorem dX5_holdAt_2 : decode cX5_holdAt 2 = .ok (.bipush 20, 2) := by decide +kernel
theorem dX5_holdAt_4 : decode cX5_holdAt 4 = .ok (.invokestatic 56, 3) := by decide +kernel
theorem dX5_holdAt_7 : decode cX5_holdAt 7 = .ok (.ifCond .eq 15, 3) := by decide +kernel
theorem dX5_holdAt_10 : decode cX5_holdAt 10 = .ok (.iload 4, 2) := by decide +kernel
theorem dX5_holdAt_12 : decode cX5_holdAt 12 = .ok (.invokestatic 112, 3) := by decide +kernel
theorem dX5_holdAt_15 : decode cX5_holdAt 15 = .ok (.ifCond .eq 7, 3) := by decide +kernel
theorem dX5_holdAt_18 : decode cX5_holdAt 18 = .ok (.iconst 1, 1) := by decide +kernel
theorem dX5_holdAt_19 : decode cX5_holdAt 19 = .ok (.goto 4, 3) := by decide +kernel
theorem dX5_holdAt_22 : decode cX5_holdAt 22 = .ok (.iconst 0, 1) := by decide +kernel
theorem dX5_holdAt_23 : decode cX5_holdAt 23 = .ok (.istore 5, 2) := by decide +kernel
theorem dX5_holdAt_25 : decode cX5_holdAt 25 = .ok (.aload_n 0, 1) := by decide +kernel
theorem dX5_holdAt_26 : decode cX5_holdAt 26 = .ok (.aload_n 0, 1) := by decide +kernel
theorem dX5_holdAt_27 : decode cX5_holdAt 27 = .ok (.iload_n 1, 1) := by decide +kernel
theorem dX5_holdAt_28 : decode cX5_holdAt 28 = .ok (.iload_n 2, 1) := by decide +kernel
theorem dX5_holdAt_29 : decode cX5_holdAt 29 = .ok (.invokevirtual 70, 3) := by decide +kernel
theorem dX5_holdAt_32 : decode cX5_holdAt 32 = .ok (.ifCond .ne 7, 3) := by decide +kernel
theorem dX5_holdAt_35 : decode cX5_holdAt 35 = .ok (.iconst 1, 1) := by decide +kernel
theorem dX5_holdAt_36 : decode cX5_holdAt 36 = .ok (.goto 36, 3) := by decide +kernel
theorem dX5_holdAt_39 : decode cX5_holdAt 39 = .ok (.iload 5, 2) := by decide +kernel
theorem dX5_holdAt_41 : decode cX5_holdAt 41 = .ok (.ifCond .ne 7, 3) := by decide +kernel
theorem dX5_holdAt_44 : decode cX5_holdAt 44 = .ok (.iconst 2, 1) := by decide +kernel
theorem dX5_holdAt_45 : decode cX5_holdAt 45 = .ok (.goto 27, 3) := by decide +kernel
theorem dX5_holdAt_48 : decode cX5_holdAt 48 = .ok (.aload_n 0, 1) := by decide +kernel
theorem dX5_holdAt_49 : decode cX5_holdAt 49 = .ok (.iload_n 1, 1) := by decide +kernel
theorem dX5_holdAt_50 : decode cX5_holdAt 50 = .ok (.iload_n 2, 1) := by decide +kernel
theorem dX5_holdAt_51 : decode cX5_holdAt 51 = .ok (.invokevirtual 85, 3) := by decide +kernel
theorem dX5_holdAt_54 : decode cX5_holdAt 54 = .ok (.iload_n 3, 1) := by decide +kernel
theorem dX5_holdAt_55 : decode cX5_holdAt 55 = .ok (.if_icmp .lt 12, 3) := by decide +kernel
theorem dX5_holdAt_58 : decode cX5_holdAt 58 = .ok (.aload_n 0, 1) := by decide +kernel
theorem dX5_holdAt_59 : decode cX5_holdAt 59 = .ok (.getfield 106, 3) := by decide +kernel
theorem dX5_holdAt_62 : decode cX5_holdAt 62 = .ok (.bipush 100, 2) := by decide +kernel
theorem dX5_holdAt_64 : decode cX5_holdAt 64 = .ok (.if_icmp .ne 7, 3) := by decide +kernel
theorem dX5_holdAt_67 : decode cX5_holdAt 67 = .ok (.iconst 3, 1) := by decide +kernel
theorem dX5_holdAt_68 : decode cX5_holdAt 68 = .ok (.goto 4, 3) := by decide +kernel
theorem dX5_holdAt_71 : decode cX5_holdAt 71 = .ok (.iconst 0, 1) := by decide +kernel
theorem dX5_holdAt_72 : decode cX5_holdAt 72 = .ok (.invokevirtual 63, 3) := by decide +kernel
theorem dX5_holdAt_75 : decode cX5_holdAt 75 = .ok (.ifCond .ne 5, 3) := by decide +kernel
theorem dX5_holdAt_78 : decode cX5_holdAt 78 = .ok (.iconst 0, 1) := by decide +kernel
theorem dX5_holdAt_79 : decode cX5_holdAt 79 = .ok (.ireturn, 1) := by decide +kernel
theorem dX5_holdAt_80 : decode cX5_holdAt 80 = .ok (.aload_n 0, 1) := by decide +kernel
theorem dX5_holdAt_81 : decode cX5_holdAt 81 = .ok (.iload_n 1, 1) := by decide +kernel
theorem dX5_holdAt_82 : decode cX5_holdAt 82 = .ok (.iload_n 2, 1) := by decide +kernel
theorem dX5_holdAt_83 : decode cX5_holdAt 83 = .ok (.iload_n 3, 1) := by decide +kernel
theorem dX5_holdAt_84 : decode cX5_holdAt 84 = .ok (.aload_n 0, 1) := by decide +kernel
theorem dX5_holdAt_85 : decode cX5_holdAt 85 = .ok (.iload 4, 2) := by decide +kernel
theorem dX5_holdAt_87 : decode cX5_holdAt 87 = .ok (.invokevirtual 115, 3) := by decide +kernel
theorem dX5_holdAt_90 : decode cX5_holdAt 90 = .ok (.invokevirtual 118, 3) := by decide +kernel
theorem dX5_holdAt_93 : decode cX5_holdAt 93 = .ok (.aload_n 0, 1) := by decide +kernel
theorem dX5_holdAt_94 : decode cX5_holdAt 94 = .ok (.getfield 106, 3) := by decide +kernel
theorem dX5_holdAt_97 : decode cX5_holdAt 97 = .ok (.ireturn, 1) := by decide +kernel
theorem dX5_place_0 : decode cX5_place 0 = .ok (.bipush 13, 2) := by decide +kernel
theorem dX5_place_2 : decode cX5_place 2 = .ok (.iload_n 0, 1) := by decide +kernel
theorem dX5_place_3 : decode cX5_place 3 = .ok (.imul, 1) := by decide +kernel
theorem dX5_place_4 : decode cX5_place 4 = .ok (.iload_n 1, 1) := by decide +kernel
theorem dX5_place_5 : decode cX5_place 5 = .ok (.iadd, 1) := by decide +kernel
theorem dX5_place_6 : decode cX5_place 6 = .ok (.bipush 101, 2) := by decide +kernel
theorem dX5_place_8 : decode cX5_place 8 = .ok (.imul, 1) := by decide +kernel
theorem dX5_place_9 : decode cX5_place 9 = .ok (.iload_n 2, 1) := by decide +kernel
theorem dX5_place_10 : decode cX5_place 10 = .ok (.iadd, 1) := by decide +kernel
theorem dX5_place_11 : decode cX5_place 11 = .ok (.ireturn, 1) := by decide +kernel
theorem dX5_given_0 : decode cX5_given 0 = .ok (.aload_n 0, 1) := by decide +kernel
theorem dX5_given_1 : decode cX5_given 1 = .ok (.getfield 37, 3) := by decide +kernel
theorem dX5_given_4 : decode cX5_given 4 = .ok (.iload_n 1, 1) := by decide +kernel
theorem dX5_given_5 : decode cX5_given 5 = .ok (.iconst 1, 1) := by decide +kernel
theorem dX5_given_6 : decode cX5_given 6 = .ok (.iadd, 1) := by decide +kernel
theorem dX5_given_7 : decode cX5_given 7 = .ok (.iload 4, 2) := by decide +kernel
theorem dX5_given_9 : decode cX5_given 9 = .ok (.ifCond .le 9, 3) := by decide +kernel
theorem dX5_given_12 : decode cX5_given 12 = .ok (.iload_n 2, 1) := by decide +kernel
theorem dX5_given_13 : decode cX5_given 13 = .ok (.iconst 1, 1) := by decide +kernel
theorem dX5_given_14 : decode cX5_given 14 = .ok (.isub, 1) := by decide +kernel
theorem dX5_given_15 : decode cX5_given 15 = .ok (.goto 4, 3) := by decide +kernel
theorem dX5_given_18 : decode cX5_given 18 = .ok (.iload_n 2, 1) := by decide +kernel
theorem dX5_given_19 : decode cX5_given 19 = .ok (.iload_n 3, 1) := by decide +kernel
theorem dX5_given_20 : decode cX5_given 20 = .ok (.iload 4, 2) := by decide +kernel
theorem dX5_given_22 : decode cX5_given 22 = .ok (.isub, 1) := by decide +kernel
theorem dX5_given_23 : decode cX5_given 23 = .ok (.invokestatic 122, 3) := by decide +kernel
theorem dX5_given_26 : decode cX5_given 26 = .ok (.iaload, 1) := by decide +kernel
theorem dX5_given_27 : decode cX5_given 27 = .ok (.istore 5, 2) := by decide +kernel
theorem dX5_given_29 : decode cX5_given 29 = .ok (.iload 4, 2) := by decide +kernel
theorem dX5_given_31 : decode cX5_given 31 = .ok (.ifCond .eq 10, 3) := by decide +kernel
theorem dX5_given_34 : decode cX5_given 34 = .ok (.iload 5, 2) := by decide +kernel
theorem dX5_given_36 : decode cX5_given 36 = .ok (.ldc 125, 2) := by decide +kernel
theorem dX5_given_38 : decode cX5_given 38 = .ok (.if_icmp .ne 6, 3) := by decide +kernel
theorem dX5_given_41 : decode cX5_given 41 = .ok (.iload 5, 2) := by decide +kernel
theorem dX5_given_43 : decode cX5_given 43 = .ok (.ireturn, 1) := by decide +kernel
theorem dX5_given_44 : decode cX5_given 44 = .ok (.aload_n 0, 1) := by decide +kernel
theorem dX5_given_45 : decode cX5_given 45 = .ok (.iload_n 1, 1) := by decide +kernel
theorem dX5_given_46 : decode cX5_given 46 = .ok (.iload 4, 2) := by decide +kernel
theorem dX5_given_48 : decode cX5_given 48 = .ok (.iconst 0, 1) := by decide +kernel
theorem dX5_given_49 : decode cX5_given 49 = .ok (.invokevirtual 95, 3) := by decide +kernel
theorem dX5_given_52 : decode cX5_given 52 = .ok (.istore 6, 2) := by decide +kernel
theorem dX5_given_54 : decode cX5_given 54 = .ok (.iload 6, 2) := by decide +kernel
theorem dX5_given_56 : decode cX5_given 56 = .ok (.ifCond .ge 8, 3) := by decide +kernel
theorem dX5_given_59 : decode cX5_given 59 = .ok (.ldc 125, 2) := by decide +kernel
theorem dX5_given_61 : decode cX5_given 61 = .ok (.goto 15, 3) := by decide +kernel
theorem dX5_given_64 : decode cX5_given 64 = .ok (.iload 5, 2) := by decide +kernel
theorem dX5_given_66 : decode cX5_given 66 = .ok (.aload_n 0, 1) := by decide +kernel
theorem dX5_given_67 : decode cX5_given 67 = .ok (.iload_n 1, 1) := by decide +kernel
theorem dX5_given_68 : decode cX5_given 68 = .ok (.iload 6, 2) := by decide +kernel
theorem dX5_given_70 : decode cX5_given 70 = .ok (.iload 4, 2) := by decide +kernel
theorem dX5_given_72 : decode cX5_given 72 = .ok (.invokevirtual 91, 3) := by decide +kernel
theorem dX5_given_75 : decode cX5_given 75 = .ok (.iadd, 1) := by decide +kernel
theorem dX5_given_76 : decode cX5_given 76 = .ok (.ireturn, 1) := by decide +kernel
theorem dX5_laysSplits_0 : decode cX5_laysSplits 0 = .ok (.iconst 0, 1) := by decide +kernel
theorem dX5_laysSplits_1 : decode cX5_laysSplits 1 = .ok (.istore_n 1, 1) := by decide +kernel
theorem dX5_laysSplits_2 : decode cX5_laysSplits 2 = .ok (.iload_n 1, 1) := by decide +kernel
theorem dX5_laysSplits_3 : decode cX5_laysSplits 3 = .ok (.sipush 17069, 3) := by decide +kernel
theorem dX5_laysSplits_6 : decode cX5_laysSplits 6 = .ok (.if_icmp .ge 17, 3) := by decide +kernel
theorem dX5_laysSplits_9 : decode cX5_laysSplits 9 = .ok (.aload_n 0, 1) := by decide +kernel
theorem dX5_laysSplits_10 : decode cX5_laysSplits 10 = .ok (.getfield 37, 3) := by decide +kernel
theorem dX5_laysSplits_13 : decode cX5_laysSplits 13 = .ok (.iload_n 1, 1) := by decide +kernel
theorem dX5_laysSplits_14 : decode cX5_laysSplits 14 = .ok (.ldc 125, 2) := by decide +kernel
theorem dX5_laysSplits_16 : decode cX5_laysSplits 16 = .ok (.iastore, 1) := by decide +kernel
theorem dX5_laysSplits_17 : decode cX5_laysSplits 17 = .ok (.iinc 1 1, 3) := by decide +kernel
theorem dX5_laysSplits_20 : decode cX5_laysSplits 20 = .ok (.goto (-18), 3) := by decide +kernel
theorem dX5_laysSplits_23 : decode cX5_laysSplits 23 = .ok (.aload_n 0, 1) := by decide +kernel
theorem dX5_laysSplits_24 : decode cX5_laysSplits 24 = .ok (.getfield 37, 3) := by decide +kernel
theorem dX5_laysSplits_27 : decode cX5_laysSplits 27 = .ok (.aload_n 0, 1) := by decide +kernel
theorem dX5_laysSplits_28 : decode cX5_laysSplits 28 = .ok (.getfield 60, 3) := by decide +kernel
theorem dX5_laysSplits_31 : decode cX5_laysSplits 31 = .ok (.iconst 0, 1) := by decide +kernel
theorem dX5_laysSplits_32 : decode cX5_laysSplits 32 = .ok (.iconst 0, 1) := by decide +kernel
theorem dX5_laysSplits_33 : decode cX5_laysSplits 33 = .ok (.invokestatic 122, 3) := by decide +kernel
theorem dX5_laysSplits_36 : decode cX5_laysSplits 36 = .ok (.iconst 0, 1) := by decide +kernel
theorem dX5_laysSplits_37 : decode cX5_laysSplits 37 = .ok (.iastore, 1) := by decide +kernel
theorem dX5_laysSplits_38 : decode cX5_laysSplits 38 = .ok (.aload_n 0, 1) := by decide +kernel
theorem dX5_laysSplits_39 : decode cX5_laysSplits 39 = .ok (.getfield 60, 3) := by decide +kernel
theorem dX5_laysSplits_42 : decode cX5_laysSplits 42 = .ok (.iconst 1, 1) := by decide +kernel
theorem dX5_laysSplits_43 : decode cX5_laysSplits 43 = .ok (.isub, 1) := by decide +kernel
theorem dX5_laysSplits_44 : decode cX5_laysSplits 44 = .ok (.istore_n 1, 1) := by decide +kernel
theorem dX5_laysSplits_45 : decode cX5_laysSplits 45 = .ok (.iload_n 1, 1) := by decide +kernel
theorem dX5_laysSplits_46 : decode cX5_laysSplits 46 = .ok (.ifCond .lt 89, 3) := by decide +kernel
theorem dX5_laysSplits_49 : decode cX5_laysSplits 49 = .ok (.iconst 0, 1) := by decide +kernel
theorem dX5_laysSplits_50 : decode cX5_laysSplits 50 = .ok (.istore_n 2, 1) := by decide +kernel
theorem dX5_laysSplits_51 : decode cX5_laysSplits 51 = .ok (.iload_n 2, 1) := by decide +kernel
theorem dX5_laysSplits_52 : decode cX5_laysSplits 52 = .ok (.aload_n 0, 1) := by decide +kernel
theorem dX5_laysSplits_53 : decode cX5_laysSplits 53 = .ok (.getfield 60, 3) := by decide +kernel
theorem dX5_laysSplits_56 : decode cX5_laysSplits 56 = .ok (.iload_n 1, 1) := by decide +kernel
theorem dX5_laysSplits_57 : decode cX5_laysSplits 57 = .ok (.isub, 1) := by decide +kernel
theorem dX5_laysSplits_58 : decode cX5_laysSplits 58 = .ok (.if_icmp .gt 47, 3) := by decide +kernel
theorem dX5_laysSplits_61 : decode cX5_laysSplits 61 = .ok (.iconst 0, 1) := by decide +kernel
theorem dX5_laysSplits_62 : decode cX5_laysSplits 62 = .ok (.istore_n 3, 1) := by decide +kernel
theorem dX5_laysSplits_63 : decode cX5_laysSplits 63 = .ok (.iload_n 3, 1) := by decide +kernel
theorem dX5_laysSplits_64 : decode cX5_laysSplits 64 = .ok (.bipush 100, 2) := by decide +kernel
theorem dX5_laysSplits_66 : decode cX5_laysSplits 66 = .ok (.if_icmp .gt 33, 3) := by decide +kernel
theorem dX5_laysSplits_69 : decode cX5_laysSplits 69 = .ok (.aload_n 0, 1) := by decide +kernel
theorem dX5_laysSplits_70 : decode cX5_laysSplits 70 = .ok (.getfield 37, 3) := by decide +kernel
theorem dX5_laysSplits_73 : decode cX5_laysSplits 73 = .ok (.iload_n 1, 1) := by decide +kernel
theorem dX5_laysSplits_74 : decode cX5_laysSplits 74 = .ok (.iload_n 2, 1) := by decide +kernel
theorem dX5_laysSplits_75 : decode cX5_laysSplits 75 = .ok (.iload_n 3, 1) := by decide +kernel
theorem dX5_laysSplits_76 : decode cX5_laysSplits 76 = .ok (.invokestatic 122, 3) := by decide +kernel
theorem dX5_laysSplits_79 : decode cX5_laysSplits 79 = .ok (.aload_n 0, 1) := by decide +kernel
theorem dX5_laysSplits_80 : decode cX5_laysSplits 80 = .ok (.getfield 37, 3) := by decide +kernel
theorem dX5_laysSplits_83 : decode cX5_laysSplits 83 = .ok (.iload_n 1, 1) := by decide +kernel
theorem dX5_laysSplits_84 : decode cX5_laysSplits 84 = .ok (.iconst 1, 1) := by decide +kernel
theorem dX5_laysSplits_85 : decode cX5_laysSplits 85 = .ok (.iadd, 1) := by decide +kernel
theorem dX5_laysSplits_86 : decode cX5_laysSplits 86 = .ok (.iload_n 2, 1) := by decide +kernel
theorem dX5_laysSplits_87 : decode cX5_laysSplits 87 = .ok (.iload_n 3, 1) := by decide +kernel
theorem dX5_laysSplits_88 : decode cX5_laysSplits 88 = .ok (.invokestatic 122, 3) := by decide +kernel
theorem dX5_laysSplits_91 : decode cX5_laysSplits 91 = .ok (.iaload, 1) := by decide +kernel
theorem dX5_laysSplits_92 : decode cX5_laysSplits 92 = .ok (.iastore, 1) := by decide +kernel
theorem dX5_laysSplits_93 : decode cX5_laysSplits 93 = .ok (.iinc 3 1, 3) := by decide +kernel
theorem dX5_laysSplits_96 : decode cX5_laysSplits 96 = .ok (.goto (-33), 3) := by decide +kernel
theorem dX5_laysSplits_99 : decode cX5_laysSplits 99 = .ok (.iinc 2 1, 3) := by decide +kernel
theorem dX5_laysSplits_102 : decode cX5_laysSplits 102 = .ok (.goto (-51), 3) := by decide +kernel
theorem dX5_laysSplits_105 : decode cX5_laysSplits 105 = .ok (.iconst 2, 1) := by decide +kernel
theorem dX5_laysSplits_106 : decode cX5_laysSplits 106 = .ok (.istore_n 2, 1) := by decide +kernel
theorem dX5_laysSplits_107 : decode cX5_laysSplits 107 = .ok (.iload_n 2, 1) := by decide +kernel
theorem dX5_laysSplits_108 : decode cX5_laysSplits 108 = .ok (.aload_n 0, 1) := by decide +kernel
theorem dX5_laysSplits_109 : decode cX5_laysSplits 109 = .ok (.getfield 7, 3) := by decide +kernel
theorem dX5_laysSplits_112 : decode cX5_laysSplits 112 = .ok (.iload_n 1, 1) := by decide +kernel
theorem dX5_laysSplits_113 : decode cX5_laysSplits 113 = .ok (.iaload, 1) := by decide +kernel
theorem dX5_laysSplits_114 : decode cX5_laysSplits 114 = .ok (.if_icmp .gt 15, 3) := by decide +kernel
theorem dX5_laysSplits_117 : decode cX5_laysSplits 117 = .ok (.aload_n 0, 1) := by decide +kernel
theorem dX5_laysSplits_118 : decode cX5_laysSplits 118 = .ok (.iload_n 1, 1) := by decide +kernel
theorem dX5_laysSplits_119 : decode cX5_laysSplits 119 = .ok (.iload_n 2, 1) := by decide +kernel
theorem dX5_laysSplits_120 : decode cX5_laysSplits 120 = .ok (.invokevirtual 126, 3) := by decide +kernel
theorem dX5_laysSplits_123 : decode cX5_laysSplits 123 = .ok (.iinc 2 1, 3) := by decide +kernel
theorem dX5_laysSplits_126 : decode cX5_laysSplits 126 = .ok (.goto (-19), 3) := by decide +kernel
theorem dX5_laysSplits_129 : decode cX5_laysSplits 129 = .ok (.iinc 1 (-1), 3) := by decide +kernel
theorem dX5_laysSplits_132 : decode cX5_laysSplits 132 = .ok (.goto (-87), 3) := by decide +kernel
theorem dX5_laysSplits_135 : decode cX5_laysSplits 135 = .ok (.return_, 1) := by decide +kernel
theorem dX5_laysSeats_0 : decode cX5_laysSeats 0 = .ok (.aload_n 0, 1) := by decide +kernel
theorem dX5_laysSeats_1 : decode cX5_laysSeats 1 = .ok (.iload_n 1, 1) := by decide +kernel
theorem dX5_laysSeats_2 : decode cX5_laysSeats 2 = .ok (.iload_n 2, 1) := by decide +kernel
theorem dX5_laysSeats_3 : decode cX5_laysSeats 3 = .ok (.iconst 0, 1) := by decide +kernel
theorem dX5_laysSeats_4 : decode cX5_laysSeats 4 = .ok (.invokevirtual 95, 3) := by decide +kernel
theorem dX5_laysSeats_7 : decode cX5_laysSeats 7 = .ok (.istore_n 3, 1) := by decide +kernel
theorem dX5_laysSeats_8 : decode cX5_laysSeats 8 = .ok (.iload_n 3, 1) := by decide +kernel
theorem dX5_laysSeats_9 : decode cX5_laysSeats 9 = .ok (.ifCond .ge 7, 3) := by decide +kernel
theorem dX5_laysSeats_12 : decode cX5_laysSeats 12 = .ok (.iconst 0, 1) := by decide +kernel
theorem dX5_laysSeats_13 : decode cX5_laysSeats 13 = .ok (.goto 10, 3) := by decide +kernel
theorem dX5_laysSeats_16 : decode cX5_laysSeats 16 = .ok (.aload_n 0, 1) := by decide +kernel
theorem dX5_laysSeats_17 : decode cX5_laysSeats 17 = .ok (.iload_n 1, 1) := by decide +kernel
theorem dX5_laysSeats_18 : decode cX5_laysSeats 18 = .ok (.iload_n 3, 1) := by decide +kernel
theorem dX5_laysSeats_19 : decode cX5_laysSeats 19 = .ok (.iload_n 2, 1) := by decide +kernel
theorem dX5_laysSeats_20 : decode cX5_laysSeats 20 = .ok (.invokevirtual 91, 3) := by decide +kernel
theorem dX5_laysSeats_23 : decode cX5_laysSeats 23 = .ok (.istore 4, 2) := by decide +kernel
theorem dX5_laysSeats_25 : decode cX5_laysSeats 25 = .ok (.iconst 1, 1) := by decide +kernel
theorem dX5_laysSeats_26 : decode cX5_laysSeats 26 = .ok (.istore 5, 2) := by decide +kernel
theorem dX5_laysSeats_28 : decode cX5_laysSeats 28 = .ok (.iload 5, 2) := by decide +kernel
theorem dX5_laysSeats_30 : decode cX5_laysSeats 30 = .ok (.aload_n 0, 1) := by decide +kernel
theorem dX5_laysSeats_31 : decode cX5_laysSeats 31 = .ok (.getfield 60, 3) := by decide +kernel
theorem dX5_laysSeats_34 : decode cX5_laysSeats 34 = .ok (.iload_n 1, 1) := by decide +kernel
theorem dX5_laysSeats_35 : decode cX5_laysSeats 35 = .ok (.isub, 1) := by decide +kernel
theorem dX5_laysSeats_36 : decode cX5_laysSeats 36 = .ok (.if_icmp .gt 96, 3) := by decide +kernel
theorem dX5_laysSeats_39 : decode cX5_laysSeats 39 = .ok (.iload_n 3, 1) := by decide +kernel
theorem dX5_laysSeats_40 : decode cX5_laysSeats 40 = .ok (.ifCond .lt 92, 3) := by decide +kernel
theorem dX5_laysSeats_43 : decode cX5_laysSeats 43 = .ok (.iload_n 2, 1) := by decide +kernel
theorem dX5_laysSeats_44 : decode cX5_laysSeats 44 = .ok (.istore 6, 2) := by decide +kernel
theorem dX5_laysSeats_46 : decode cX5_laysSeats 46 = .ok (.iload 6, 2) := by decide +kernel
theorem dX5_laysSeats_48 : decode cX5_laysSeats 48 = .ok (.bipush 100, 2) := by decide +kernel
theorem dX5_laysSeats_50 : decode cX5_laysSeats 50 = .ok (.if_icmp .gt 76, 3) := by decide +kernel
theorem dX5_laysSeats_53 : decode cX5_laysSeats 53 = .ok (.aload_n 0, 1) := by decide +kernel
theorem dX5_laysSeats_54 : decode cX5_laysSeats 54 = .ok (.getfield 37, 3) := by decide +kernel
theorem dX5_laysSeats_57 : decode cX5_laysSeats 57 = .ok (.iload_n 1, 1) := by decide +kernel
theorem dX5_laysSeats_58 : decode cX5_laysSeats 58 = .ok (.iconst 1, 1) := by decide +kernel
theorem dX5_laysSeats_59 : decode cX5_laysSeats 59 = .ok (.iadd, 1) := by decide +kernel
theorem dX5_laysSeats_60 : decode cX5_laysSeats 60 = .ok (.iload 5, 2) := by decide +kernel
theorem dX5_laysSeats_62 : decode cX5_laysSeats 62 = .ok (.iconst 1, 1) := by decide +kernel
theorem dX5_laysSeats_63 : decode cX5_laysSeats 63 = .ok (.isub, 1) := by decide +kernel
theorem dX5_laysSeats_64 : decode cX5_laysSeats 64 = .ok (.iload 6, 2) := by decide +kernel
theorem dX5_laysSeats_66 : decode cX5_laysSeats 66 = .ok (.iload_n 2, 1) := by decide +kernel
theorem dX5_laysSeats_67 : decode cX5_laysSeats 67 = .ok (.isub, 1) := by decide +kernel
theorem dX5_laysSeats_68 : decode cX5_laysSeats 68 = .ok (.invokestatic 122, 3) := by decide +kernel
theorem dX5_laysSeats_71 : decode cX5_laysSeats 71 = .ok (.iaload, 1) := by decide +kernel
theorem dX5_laysSeats_72 : decode cX5_laysSeats 72 = .ok (.istore 7, 2) := by decide +kernel
theorem dX5_laysSeats_74 : decode cX5_laysSeats 74 = .ok (.iload 7, 2) := by decide +kernel
theorem dX5_laysSeats_76 : decode cX5_laysSeats 76 = .ok (.ldc 125, 2) := by decide +kernel
theorem dX5_laysSeats_78 : decode cX5_laysSeats 78 = .ok (.if_icmp .eq 42, 3) := by decide +kernel
theorem dX5_laysSeats_81 : decode cX5_laysSeats 81 = .ok (.iload 7, 2) := by decide +kernel
theorem dX5_laysSeats_83 : decode cX5_laysSeats 83 = .ok (.iload 4, 2) := by decide +kernel
theorem dX5_laysSeats_85 : decode cX5_laysSeats 85 = .ok (.iadd, 1) := by decide +kernel
theorem dX5_laysSeats_86 : decode cX5_laysSeats 86 = .ok (.aload_n 0, 1) := by decide +kernel
theorem dX5_laysSeats_87 : decode cX5_laysSeats 87 = .ok (.getfield 37, 3) := by decide +kernel
theorem dX5_laysSeats_90 : decode cX5_laysSeats 90 = .ok (.iload_n 1, 1) := by decide +kernel
theorem dX5_laysSeats_91 : decode cX5_laysSeats 91 = .ok (.iload 5, 2) := by decide +kernel
theorem dX5_laysSeats_93 : decode cX5_laysSeats 93 = .ok (.iload 6, 2) := by decide +kernel
theorem dX5_laysSeats_95 : decode cX5_laysSeats 95 = .ok (.invokestatic 122, 3) := by decide +kernel
theorem dX5_laysSeats_98 : decode cX5_laysSeats 98 = .ok (.iaload, 1) := by decide +kernel
theorem dX5_laysSeats_99 : decode cX5_laysSeats 99 = .ok (.if_icmp .le 21, 3) := by decide +kernel
theorem dX5_laysSeats_102 : decode cX5_laysSeats 102 = .ok (.aload_n 0, 1) := by decide +kernel
theorem dX5_laysSeats_103 : decode cX5_laysSeats 103 = .ok (.getfield 37, 3) := by decide +kernel
theorem dX5_laysSeats_106 : decode cX5_laysSeats 106 = .ok (.iload_n 1, 1) := by decide +kernel
theorem dX5_laysSeats_107 : decode cX5_laysSeats 107 = .ok (.iload 5, 2) := by decide +kernel
theorem dX5_laysSeats_109 : decode cX5_laysSeats 109 = .ok (.iload 6, 2) := by decide +kernel
theorem dX5_laysSeats_111 : decode cX5_laysSeats 111 = .ok (.invokestatic 122, 3) := by decide +kernel
theorem dX5_laysSeats_114 : decode cX5_laysSeats 114 = .ok (.iload 7, 2) := by decide +kernel
theorem dX5_laysSeats_116 : decode cX5_laysSeats 116 = .ok (.iload 4, 2) := by decide +kernel
theorem dX5_laysSeats_118 : decode cX5_laysSeats 118 = .ok (.iadd, 1) := by decide +kernel
theorem dX5_laysSeats_119 : decode cX5_laysSeats 119 = .ok (.iastore, 1) := by decide +kernel
theorem dX5_laysSeats_120 : decode cX5_laysSeats 120 = .ok (.iinc 6 1, 3) := by decide +kernel
theorem dX5_laysSeats_123 : decode cX5_laysSeats 123 = .ok (.goto (-77), 3) := by decide +kernel
theorem dX5_laysSeats_126 : decode cX5_laysSeats 126 = .ok (.iinc 5 1, 3) := by decide +kernel
theorem dX5_laysSeats_129 : decode cX5_laysSeats 129 = .ok (.goto (-101), 3) := by decide +kernel
theorem dX5_laysSeats_132 : decode cX5_laysSeats 132 = .ok (.return_, 1) := by decide +kernel
theorem dX5_splits_0 : decode cX5_splits 0 = .ok (.aload_n 0, 1) := by decide +kernel
theorem dX5_splits_1 : decode cX5_splits 1 = .ok (.invokevirtual 130, 3) := by decide +kernel
theorem dX5_splits_4 : decode cX5_splits 4 = .ok (.iconst 1, 1) := by decide +kernel
theorem dX5_splits_5 : decode cX5_splits 5 = .ok (.istore_n 2, 1) := by decide +kernel
theorem dX5_splits_6 : decode cX5_splits 6 = .ok (.iload_n 2, 1) := by decide +kernel
theorem dX5_splits_7 : decode cX5_splits 7 = .ok (.aload_n 0, 1) := by decide +kernel
theorem dX5_splits_8 : decode cX5_splits 8 = .ok (.getfield 60, 3) := by decide +kernel
theorem dX5_splits_11 : decode cX5_splits 11 = .ok (.if_icmp .gt 25, 3) := by decide +kernel
theorem dX5_splits_14 : decode cX5_splits 14 = .ok (.aload_n 0, 1) := by decide +kernel
theorem dX5_splits_15 : decode cX5_splits 15 = .ok (.getfield 37, 3) := by decide +kernel
theorem dX5_splits_18 : decode cX5_splits 18 = .ok (.iconst 0, 1) := by decide +kernel
theorem dX5_splits_19 : decode cX5_splits 19 = .ok (.iload_n 2, 1) := by decide +kernel
theorem dX5_splits_20 : decode cX5_splits 20 = .ok (.iload_n 1, 1) := by decide +kernel
theorem dX5_splits_21 : decode cX5_splits 21 = .ok (.invokestatic 122, 3) := by decide +kernel
theorem dX5_splits_24 : decode cX5_splits 24 = .ok (.iaload, 1) := by decide +kernel
theorem dX5_splits_25 : decode cX5_splits 25 = .ok (.ldc 125, 2) := by decide +kernel
theorem dX5_splits_27 : decode cX5_splits 27 = .ok (.if_icmp .ne 9, 3) := by decide +kernel
theorem dX5_splits_30 : decode cX5_splits 30 = .ok (.iinc 2 1, 3) := by decide +kernel
theorem dX5_splits_33 : decode cX5_splits 33 = .ok (.goto (-27), 3) := by decide +kernel
theorem dX5_splits_36 : decode cX5_splits 36 = .ok (.iload_n 2, 1) := by decide +kernel
theorem dX5_splits_37 : decode cX5_splits 37 = .ok (.aload_n 0, 1) := by decide +kernel
theorem dX5_splits_38 : decode cX5_splits 38 = .ok (.getfield 60, 3) := by decide +kernel
theorem dX5_splits_41 : decode cX5_splits 41 = .ok (.if_icmp .le 5, 3) := by decide +kernel
theorem dX5_splits_44 : decode cX5_splits 44 = .ok (.iconst 0, 1) := by decide +kernel
theorem dX5_splits_45 : decode cX5_splits 45 = .ok (.ireturn, 1) := by decide +kernel
theorem dX5_splits_46 : decode cX5_splits 46 = .ok (.iload_n 2, 1) := by decide +kernel
theorem dX5_splits_47 : decode cX5_splits 47 = .ok (.istore_n 3, 1) := by decide +kernel
theorem dX5_splits_48 : decode cX5_splits 48 = .ok (.iload_n 1, 1) := by decide +kernel
theorem dX5_splits_49 : decode cX5_splits 49 = .ok (.istore 4, 2) := by decide +kernel
theorem dX5_splits_51 : decode cX5_splits 51 = .ok (.iconst 0, 1) := by decide +kernel
theorem dX5_splits_52 : decode cX5_splits 52 = .ok (.istore 5, 2) := by decide +kernel
theorem dX5_splits_54 : decode cX5_splits 54 = .ok (.iload 5, 2) := by decide +kernel
theorem dX5_splits_56 : decode cX5_splits 56 = .ok (.aload_n 0, 1) := by decide +kernel
theorem dX5_splits_57 : decode cX5_splits 57 = .ok (.getfield 60, 3) := by decide +kernel
theorem dX5_splits_60 : decode cX5_splits 60 = .ok (.if_icmp .ge 120, 3) := by decide +kernel
theorem dX5_splits_63 : decode cX5_splits 63 = .ok (.aload_n 0, 1) := by decide +kernel
theorem dX5_splits_64 : decode cX5_splits 64 = .ok (.getfield 37, 3) := by decide +kernel
theorem dX5_splits_67 : decode cX5_splits 67 = .ok (.iload 5, 2) := by decide +kernel
theorem dX5_splits_69 : decode cX5_splits 69 = .ok (.iload_n 3, 1) := by decide +kernel
theorem dX5_splits_70 : decode cX5_splits 70 = .ok (.iload 4, 2) := by decide +kernel
theorem dX5_splits_72 : decode cX5_splits 72 = .ok (.invokestatic 122, 3) := by decide +kernel
theorem dX5_splits_75 : decode cX5_splits 75 = .ok (.iaload, 1) := by decide +kernel
theorem dX5_splits_76 : decode cX5_splits 76 = .ok (.istore 6, 2) := by decide +kernel
theorem dX5_splits_78 : decode cX5_splits 78 = .ok (.iload_n 3, 1) := by decide +kernel
theorem dX5_splits_79 : decode cX5_splits 79 = .ok (.ifCond .ne 7, 3) := by decide +kernel
theorem dX5_splits_82 : decode cX5_splits 82 = .ok (.iconst 0, 1) := by decide +kernel
theorem dX5_splits_83 : decode cX5_splits 83 = .ok (.goto 27, 3) := by decide +kernel
theorem dX5_splits_86 : decode cX5_splits 86 = .ok (.iload 4, 2) := by decide +kernel
theorem dX5_splits_88 : decode cX5_splits 88 = .ok (.aload_n 0, 1) := by decide +kernel
theorem dX5_splits_89 : decode cX5_splits 89 = .ok (.getfield 7, 3) := by decide +kernel
theorem dX5_splits_92 : decode cX5_splits 92 = .ok (.iload 5, 2) := by decide +kernel
theorem dX5_splits_94 : decode cX5_splits 94 = .ok (.iaload, 1) := by decide +kernel
theorem dX5_splits_95 : decode cX5_splits 95 = .ok (.if_icmp .ge 8, 3) := by decide +kernel
theorem dX5_splits_98 : decode cX5_splits 98 = .ok (.iload 4, 2) := by decide +kernel
theorem dX5_splits_100 : decode cX5_splits 100 = .ok (.goto 10, 3) := by decide +kernel
theorem dX5_splits_103 : decode cX5_splits 103 = .ok (.aload_n 0, 1) := by decide +kernel
theorem dX5_splits_104 : decode cX5_splits 104 = .ok (.getfield 7, 3) := by decide +kernel
theorem dX5_splits_107 : decode cX5_splits 107 = .ok (.iload 5, 2) := by decide +kernel
theorem dX5_splits_109 : decode cX5_splits 109 = .ok (.iaload, 1) := by decide +kernel
theorem dX5_splits_110 : decode cX5_splits 110 = .ok (.istore 7, 2) := by decide +kernel
theorem dX5_splits_112 : decode cX5_splits 112 = .ok (.iload 7, 2) := by decide +kernel
theorem dX5_splits_114 : decode cX5_splits 114 = .ok (.ifCond .le 31, 3) := by decide +kernel
theorem dX5_splits_117 : decode cX5_splits 117 = .ok (.iload 7, 2) := by decide +kernel
theorem dX5_splits_119 : decode cX5_splits 119 = .ok (.iconst 1, 1) := by decide +kernel
theorem dX5_splits_120 : decode cX5_splits 120 = .ok (.if_icmp .eq 19, 3) := by decide +kernel
theorem dX5_splits_123 : decode cX5_splits 123 = .ok (.aload_n 0, 1) := by decide +kernel
theorem dX5_splits_124 : decode cX5_splits 124 = .ok (.iload 5, 2) := by decide +kernel
theorem dX5_splits_126 : decode cX5_splits 126 = .ok (.iload_n 3, 1) := by decide +kernel
theorem dX5_splits_127 : decode cX5_splits 127 = .ok (.iload 4, 2) := by decide +kernel
theorem dX5_splits_129 : decode cX5_splits 129 = .ok (.iload 7, 2) := by decide +kernel
theorem dX5_splits_131 : decode cX5_splits 131 = .ok (.invokevirtual 133, 3) := by decide +kernel
theorem dX5_splits_134 : decode cX5_splits 134 = .ok (.iload 6, 2) := by decide +kernel
theorem dX5_splits_136 : decode cX5_splits 136 = .ok (.if_icmp .eq 9, 3) := by decide +kernel
theorem dX5_splits_139 : decode cX5_splits 139 = .ok (.iinc 7 (-1), 3) := by decide +kernel
theorem dX5_splits_142 : decode cX5_splits 142 = .ok (.goto (-30), 3) := by decide +kernel
theorem dX5_splits_145 : decode cX5_splits 145 = .ok (.aload_n 0, 1) := by decide +kernel
theorem dX5_splits_146 : decode cX5_splits 146 = .ok (.getfield 40, 3) := by decide +kernel
theorem dX5_splits_149 : decode cX5_splits 149 = .ok (.iload 5, 2) := by decide +kernel
theorem dX5_splits_151 : decode cX5_splits 151 = .ok (.iload 7, 2) := by decide +kernel
theorem dX5_splits_153 : decode cX5_splits 153 = .ok (.iastore, 1) := by decide +kernel
theorem dX5_splits_154 : decode cX5_splits 154 = .ok (.iload_n 3, 1) := by decide +kernel
theorem dX5_splits_155 : decode cX5_splits 155 = .ok (.iload 7, 2) := by decide +kernel
theorem dX5_splits_157 : decode cX5_splits 157 = .ok (.ifCond .le 7, 3) := by decide +kernel
theorem dX5_splits_160 : decode cX5_splits 160 = .ok (.iconst 1, 1) := by decide +kernel
theorem dX5_splits_161 : decode cX5_splits 161 = .ok (.goto 4, 3) := by decide +kernel
theorem dX5_splits_164 : decode cX5_splits 164 = .ok (.iconst 0, 1) := by decide +kernel
theorem dX5_splits_165 : decode cX5_splits 165 = .ok (.isub, 1) := by decide +kernel
theorem dX5_splits_166 : decode cX5_splits 166 = .ok (.istore_n 3, 1) := by decide +kernel
theorem dX5_splits_167 : decode cX5_splits 167 = .ok (.iload 4, 2) := by decide +kernel
theorem dX5_splits_169 : decode cX5_splits 169 = .ok (.iload 7, 2) := by decide +kernel
theorem dX5_splits_171 : decode cX5_splits 171 = .ok (.isub, 1) := by decide +kernel
theorem dX5_splits_172 : decode cX5_splits 172 = .ok (.istore 4, 2) := by decide +kernel
theorem dX5_splits_174 : decode cX5_splits 174 = .ok (.iinc 5 1, 3) := by decide +kernel
theorem dX5_splits_177 : decode cX5_splits 177 = .ok (.goto (-123), 3) := by decide +kernel
theorem dX5_splits_180 : decode cX5_splits 180 = .ok (.iload_n 2, 1) := by decide +kernel
theorem dX5_splits_181 : decode cX5_splits 181 = .ok (.ireturn, 1) := by decide +kernel
theorem dX5_isGroup_0 : decode cX5_isGroup 0 = .ok (.iload_n 0, 1) := by decide +kernel
theorem dX5_isGroup_1 : decode cX5_isGroup 1 = .ok (.iconst 2, 1) := by decide +kernel
theorem dX5_isGroup_2 : decode cX5_isGroup 2 = .ok (.bipush 100, 2) := by decide +kernel
theorem dX5_isGroup_4 : decode cX5_isGroup 4 = .ok (.invokestatic 56, 3) := by decide +kernel
theorem dX5_isGroup_7 : decode cX5_isGroup 7 = .ok (.ireturn, 1) := by decide +kernel
theorem dX5_rowsForGroup_0 : decode cX5_rowsForGroup 0 = .ok (.iload_n 1, 1) := by decide +kernel
theorem dX5_rowsForGroup_1 : decode cX5_rowsForGroup 1 = .ok (.invokestatic 137, 3) := by decide +kernel
theorem dX5_rowsForGroup_4 : decode cX5_rowsForGroup 4 = .ok (.ifCond .eq 11, 3) := by decide +kernel
theorem dX5_rowsForGroup_7 : decode cX5_rowsForGroup 7 = .ok (.aload_n 0, 1) := by decide +kernel
theorem dX5_rowsForGroup_8 : decode cX5_rowsForGroup 8 = .ok (.iload_n 1, 1) := by decide +kernel
theorem dX5_rowsForGroup_9 : decode cX5_rowsForGroup 9 = .ok (.invokevirtual 140, 3) := by decide +kernel
theorem dX5_rowsForGroup_12 : decode cX5_rowsForGroup 12 = .ok (.goto 4, 3) := by decide +kernel
theorem dX5_rowsForGroup_15 : decode cX5_rowsForGroup 15 = .ok (.iconst 0, 1) := by decide +kernel
theorem dX5_rowsForGroup_16 : decode cX5_rowsForGroup 16 = .ok (.istore_n 2, 1) := by decide +kernel
theorem dX5_rowsForGroup_17 : decode cX5_rowsForGroup 17 = .ok (.aload_n 0, 1) := by decide +kernel
theorem dX5_rowsForGroup_18 : decode cX5_rowsForGroup 18 = .ok (.iload_n 1, 1) := by decide +kernel
theorem dX5_rowsForGroup_19 : decode cX5_rowsForGroup 19 = .ok (.invokestatic 137, 3) := by decide +kernel
theorem dX5_rowsForGroup_22 : decode cX5_rowsForGroup 22 = .ok (.ifCond .ne 7, 3) := by decide +kernel
theorem dX5_rowsForGroup_25 : decode cX5_rowsForGroup 25 = .ok (.iconst 1, 1) := by decide +kernel
theorem dX5_rowsForGroup_26 : decode cX5_rowsForGroup 26 = .ok (.goto 12, 3) := by decide +kernel
theorem dX5_rowsForGroup_29 : decode cX5_rowsForGroup 29 = .ok (.iload_n 2, 1) := by decide +kernel
theorem dX5_rowsForGroup_30 : decode cX5_rowsForGroup 30 = .ok (.ifCond .ne 7, 3) := by decide +kernel
theorem dX5_rowsForGroup_33 : decode cX5_rowsForGroup 33 = .ok (.iconst 2, 1) := by decide +kernel
theorem dX5_rowsForGroup_34 : decode cX5_rowsForGroup 34 = .ok (.goto 4, 3) := by decide +kernel
theorem dX5_rowsForGroup_37 : decode cX5_rowsForGroup 37 = .ok (.iconst 0, 1) := by decide +kernel
theorem dX5_rowsForGroup_38 : decode cX5_rowsForGroup 38 = .ok (.invokevirtual 63, 3) := by decide +kernel
theorem dX5_rowsForGroup_41 : decode cX5_rowsForGroup 41 = .ok (.ifCond .eq 7, 3) := by decide +kernel
theorem dX5_rowsForGroup_44 : decode cX5_rowsForGroup 44 = .ok (.iload_n 2, 1) := by decide +kernel
theorem dX5_rowsForGroup_45 : decode cX5_rowsForGroup 45 = .ok (.goto 4, 3) := by decide +kernel
theorem dX5_rowsForGroup_48 : decode cX5_rowsForGroup 48 = .ok (.iconst 0, 1) := by decide +kernel
theorem dX5_rowsForGroup_49 : decode cX5_rowsForGroup 49 = .ok (.ireturn, 1) := by decide +kernel
theorem dX5_seatsForGroup_0 : decode cX5_seatsForGroup 0 = .ok (.aload_n 0, 1) := by decide +kernel
theorem dX5_seatsForGroup_1 : decode cX5_seatsForGroup 1 = .ok (.iload_n 2, 1) := by decide +kernel
theorem dX5_seatsForGroup_2 : decode cX5_seatsForGroup 2 = .ok (.invokevirtual 67, 3) := by decide +kernel
theorem dX5_seatsForGroup_5 : decode cX5_seatsForGroup 5 = .ok (.ifCond .eq 14, 3) := by decide +kernel
theorem dX5_seatsForGroup_8 : decode cX5_seatsForGroup 8 = .ok (.iload_n 1, 1) := by decide +kernel
theorem dX5_seatsForGroup_9 : decode cX5_seatsForGroup 9 = .ok (.invokestatic 137, 3) := by decide +kernel
theorem dX5_seatsForGroup_12 : decode cX5_seatsForGroup 12 = .ok (.ifCond .eq 7, 3) := by decide +kernel
theorem dX5_seatsForGroup_15 : decode cX5_seatsForGroup 15 = .ok (.iconst 1, 1) := by decide +kernel
theorem dX5_seatsForGroup_16 : decode cX5_seatsForGroup 16 = .ok (.goto 4, 3) := by decide +kernel
theorem dX5_seatsForGroup_19 : decode cX5_seatsForGroup 19 = .ok (.iconst 0, 1) := by decide +kernel
theorem dX5_seatsForGroup_20 : decode cX5_seatsForGroup 20 = .ok (.istore_n 3, 1) := by decide +kernel
theorem dX5_seatsForGroup_21 : decode cX5_seatsForGroup 21 = .ok (.iload_n 3, 1) := by decide +kernel
theorem dX5_seatsForGroup_22 : decode cX5_seatsForGroup 22 = .ok (.ifCond .eq 11, 3) := by decide +kernel
theorem dX5_seatsForGroup_25 : decode cX5_seatsForGroup 25 = .ok (.aload_n 0, 1) := by decide +kernel
theorem dX5_seatsForGroup_26 : decode cX5_seatsForGroup 26 = .ok (.iload_n 1, 1) := by decide +kernel
theorem dX5_seatsForGroup_27 : decode cX5_seatsForGroup 27 = .ok (.invokevirtual 140, 3) := by decide +kernel
theorem dX5_seatsForGroup_30 : decode cX5_seatsForGroup 30 = .ok (.goto 4, 3) := by decide +kernel
theorem dX5_seatsForGroup_33 : decode cX5_seatsForGroup 33 = .ok (.iconst 0, 1) := by decide +kernel
theorem dX5_seatsForGroup_34 : decode cX5_seatsForGroup 34 = .ok (.istore 4, 2) := by decide +kernel
theorem dX5_seatsForGroup_36 : decode cX5_seatsForGroup 36 = .ok (.aload_n 0, 1) := by decide +kernel
theorem dX5_seatsForGroup_37 : decode cX5_seatsForGroup 37 = .ok (.aload_n 0, 1) := by decide +kernel
theorem dX5_seatsForGroup_38 : decode cX5_seatsForGroup 38 = .ok (.iload_n 2, 1) := by decide +kernel
theorem dX5_seatsForGroup_39 : decode cX5_seatsForGroup 39 = .ok (.invokevirtual 67, 3) := by decide +kernel
theorem dX5_seatsForGroup_42 : decode cX5_seatsForGroup 42 = .ok (.ifCond .ne 7, 3) := by decide +kernel
theorem dX5_seatsForGroup_45 : decode cX5_seatsForGroup 45 = .ok (.iconst 1, 1) := by decide +kernel
theorem dX5_seatsForGroup_46 : decode cX5_seatsForGroup 46 = .ok (.goto 24, 3) := by decide +kernel
theorem dX5_seatsForGroup_49 : decode cX5_seatsForGroup 49 = .ok (.iload_n 1, 1) := by decide +kernel
theorem dX5_seatsForGroup_50 : decode cX5_seatsForGroup 50 = .ok (.invokestatic 137, 3) := by decide +kernel
theorem dX5_seatsForGroup_53 : decode cX5_seatsForGroup 53 = .ok (.ifCond .ne 7, 3) := by decide +kernel
theorem dX5_seatsForGroup_56 : decode cX5_seatsForGroup 56 = .ok (.iconst 2, 1) := by decide +kernel
theorem dX5_seatsForGroup_57 : decode cX5_seatsForGroup 57 = .ok (.goto 13, 3) := by decide +kernel
theorem dX5_seatsForGroup_60 : decode cX5_seatsForGroup 60 = .ok (.iload 4, 2) := by decide +kernel
theorem dX5_seatsForGroup_62 : decode cX5_seatsForGroup 62 = .ok (.ifCond .ne 7, 3) := by decide +kernel
theorem dX5_seatsForGroup_65 : decode cX5_seatsForGroup 65 = .ok (.iconst 3, 1) := by decide +kernel
theorem dX5_seatsForGroup_66 : decode cX5_seatsForGroup 66 = .ok (.goto 4, 3) := by decide +kernel
theorem dX5_seatsForGroup_69 : decode cX5_seatsForGroup 69 = .ok (.iconst 0, 1) := by decide +kernel
theorem dX5_seatsForGroup_70 : decode cX5_seatsForGroup 70 = .ok (.invokevirtual 63, 3) := by decide +kernel
theorem dX5_seatsForGroup_73 : decode cX5_seatsForGroup 73 = .ok (.ifCond .eq 12, 3) := by decide +kernel
theorem dX5_seatsForGroup_76 : decode cX5_seatsForGroup 76 = .ok (.aload_n 0, 1) := by decide +kernel
theorem dX5_seatsForGroup_77 : decode cX5_seatsForGroup 77 = .ok (.getfield 40, 3) := by decide +kernel
theorem dX5_seatsForGroup_80 : decode cX5_seatsForGroup 80 = .ok (.iload_n 2, 1) := by decide +kernel
theorem dX5_seatsForGroup_81 : decode cX5_seatsForGroup 81 = .ok (.iaload, 1) := by decide +kernel
theorem dX5_seatsForGroup_82 : decode cX5_seatsForGroup 82 = .ok (.goto 4, 3) := by decide +kernel
theorem dX5_seatsForGroup_85 : decode cX5_seatsForGroup 85 = .ok (.iconst 0, 1) := by decide +kernel
theorem dX5_seatsForGroup_86 : decode cX5_seatsForGroup 86 = .ok (.ireturn, 1) := by decide +kernel
theorem dX5_holdGroup_0 : decode cX5_holdGroup 0 = .ok (.iload_n 1, 1) := by decide +kernel
theorem dX5_holdGroup_1 : decode cX5_holdGroup 1 = .ok (.invokestatic 137, 3) := by decide +kernel
theorem dX5_holdGroup_4 : decode cX5_holdGroup 4 = .ok (.ifCond .eq 14, 3) := by decide +kernel
theorem dX5_holdGroup_7 : decode cX5_holdGroup 7 = .ok (.iload_n 2, 1) := by decide +kernel
theorem dX5_holdGroup_8 : decode cX5_holdGroup 8 = .ok (.invokestatic 112, 3) := by decide +kernel
theorem dX5_holdGroup_11 : decode cX5_holdGroup 11 = .ok (.ifCond .eq 7, 3) := by decide +kernel
theorem dX5_holdGroup_14 : decode cX5_holdGroup 14 = .ok (.iconst 1, 1) := by decide +kernel
theorem dX5_holdGroup_15 : decode cX5_holdGroup 15 = .ok (.goto 4, 3) := by decide +kernel
theorem dX5_holdGroup_18 : decode cX5_holdGroup 18 = .ok (.iconst 0, 1) := by decide +kernel
theorem dX5_holdGroup_19 : decode cX5_holdGroup 19 = .ok (.istore_n 3, 1) := by decide +kernel
theorem dX5_holdGroup_20 : decode cX5_holdGroup 20 = .ok (.iload_n 3, 1) := by decide +kernel
theorem dX5_holdGroup_21 : decode cX5_holdGroup 21 = .ok (.ifCond .eq 11, 3) := by decide +kernel
theorem dX5_holdGroup_24 : decode cX5_holdGroup 24 = .ok (.aload_n 0, 1) := by decide +kernel
theorem dX5_holdGroup_25 : decode cX5_holdGroup 25 = .ok (.iload_n 1, 1) := by decide +kernel
theorem dX5_holdGroup_26 : decode cX5_holdGroup 26 = .ok (.invokevirtual 140, 3) := by decide +kernel
theorem dX5_holdGroup_29 : decode cX5_holdGroup 29 = .ok (.goto 4, 3) := by decide +kernel
theorem dX5_holdGroup_32 : decode cX5_holdGroup 32 = .ok (.iconst 0, 1) := by decide +kernel
theorem dX5_holdGroup_33 : decode cX5_holdGroup 33 = .ok (.istore 4, 2) := by decide +kernel
theorem dX5_holdGroup_35 : decode cX5_holdGroup 35 = .ok (.aload_n 0, 1) := by decide +kernel
theorem dX5_holdGroup_36 : decode cX5_holdGroup 36 = .ok (.iload_n 3, 1) := by decide +kernel
theorem dX5_holdGroup_37 : decode cX5_holdGroup 37 = .ok (.ifCond .ne 7, 3) := by decide +kernel
theorem dX5_holdGroup_40 : decode cX5_holdGroup 40 = .ok (.iconst 1, 1) := by decide +kernel
theorem dX5_holdGroup_41 : decode cX5_holdGroup 41 = .ok (.goto 22, 3) := by decide +kernel
theorem dX5_holdGroup_44 : decode cX5_holdGroup 44 = .ok (.iload 4, 2) := by decide +kernel
theorem dX5_holdGroup_46 : decode cX5_holdGroup 46 = .ok (.ifCond .eq 12, 3) := by decide +kernel
theorem dX5_holdGroup_49 : decode cX5_holdGroup 49 = .ok (.aload_n 0, 1) := by decide +kernel
theorem dX5_holdGroup_50 : decode cX5_holdGroup 50 = .ok (.getfield 106, 3) := by decide +kernel
theorem dX5_holdGroup_53 : decode cX5_holdGroup 53 = .ok (.bipush 100, 2) := by decide +kernel
theorem dX5_holdGroup_55 : decode cX5_holdGroup 55 = .ok (.if_icmp .ne 7, 3) := by decide +kernel
theorem dX5_holdGroup_58 : decode cX5_holdGroup 58 = .ok (.iconst 2, 1) := by decide +kernel
theorem dX5_holdGroup_59 : decode cX5_holdGroup 59 = .ok (.goto 4, 3) := by decide +kernel
theorem dX5_holdGroup_62 : decode cX5_holdGroup 62 = .ok (.iconst 0, 1) := by decide +kernel
theorem dX5_holdGroup_63 : decode cX5_holdGroup 63 = .ok (.invokevirtual 63, 3) := by decide +kernel
theorem dX5_holdGroup_66 : decode cX5_holdGroup 66 = .ok (.ifCond .ne 5, 3) := by decide +kernel
theorem dX5_holdGroup_69 : decode cX5_holdGroup 69 = .ok (.iconst 0, 1) := by decide +kernel
theorem dX5_holdGroup_70 : decode cX5_holdGroup 70 = .ok (.ireturn, 1) := by decide +kernel
theorem dX5_holdGroup_71 : decode cX5_holdGroup 71 = .ok (.aload_n 0, 1) := by decide +kernel
theorem dX5_holdGroup_72 : decode cX5_holdGroup 72 = .ok (.iload_n 2, 1) := by decide +kernel
theorem dX5_holdGroup_73 : decode cX5_holdGroup 73 = .ok (.invokevirtual 115, 3) := by decide +kernel
theorem dX5_holdGroup_76 : decode cX5_holdGroup 76 = .ok (.istore 5, 2) := by decide +kernel
theorem dX5_holdGroup_78 : decode cX5_holdGroup 78 = .ok (.iconst 0, 1) := by decide +kernel
theorem dX5_holdGroup_79 : decode cX5_holdGroup 79 = .ok (.istore 6, 2) := by decide +kernel
theorem dX5_holdGroup_81 : decode cX5_holdGroup 81 = .ok (.iload 6, 2) := by decide +kernel
theorem dX5_holdGroup_83 : decode cX5_holdGroup 83 = .ok (.aload_n 0, 1) := by decide +kernel
theorem dX5_holdGroup_84 : decode cX5_holdGroup 84 = .ok (.getfield 60, 3) := by decide +kernel
theorem dX5_holdGroup_87 : decode cX5_holdGroup 87 = .ok (.if_icmp .ge 48, 3) := by decide +kernel
theorem dX5_holdGroup_90 : decode cX5_holdGroup 90 = .ok (.aload_n 0, 1) := by decide +kernel
theorem dX5_holdGroup_91 : decode cX5_holdGroup 91 = .ok (.getfield 40, 3) := by decide +kernel
theorem dX5_holdGroup_94 : decode cX5_holdGroup 94 = .ok (.iload 6, 2) := by decide +kernel
theorem dX5_holdGroup_96 : decode cX5_holdGroup 96 = .ok (.iaload, 1) := by decide +kernel
theorem dX5_holdGroup_97 : decode cX5_holdGroup 97 = .ok (.ifCond .le 32, 3) := by decide +kernel
theorem dX5_holdGroup_100 : decode cX5_holdGroup 100 = .ok (.aload_n 0, 1) := by decide +kernel
theorem dX5_holdGroup_101 : decode cX5_holdGroup 101 = .ok (.iload 6, 2) := by decide +kernel
theorem dX5_holdGroup_103 : decode cX5_holdGroup 103 = .ok (.aload_n 0, 1) := by decide +kernel
theorem dX5_holdGroup_104 : decode cX5_holdGroup 104 = .ok (.iload 6, 2) := by decide +kernel
theorem dX5_holdGroup_106 : decode cX5_holdGroup 106 = .ok (.aload_n 0, 1) := by decide +kernel
theorem dX5_holdGroup_107 : decode cX5_holdGroup 107 = .ok (.getfield 40, 3) := by decide +kernel
theorem dX5_holdGroup_110 : decode cX5_holdGroup 110 = .ok (.iload 6, 2) := by decide +kernel
theorem dX5_holdGroup_112 : decode cX5_holdGroup 112 = .ok (.iaload, 1) := by decide +kernel
theorem dX5_holdGroup_113 : decode cX5_holdGroup 113 = .ok (.iconst 0, 1) := by decide +kernel
theorem dX5_holdGroup_114 : decode cX5_holdGroup 114 = .ok (.invokevirtual 95, 3) := by decide +kernel
theorem dX5_holdGroup_117 : decode cX5_holdGroup 117 = .ok (.aload_n 0, 1) := by decide +kernel
theorem dX5_holdGroup_118 : decode cX5_holdGroup 118 = .ok (.getfield 40, 3) := by decide +kernel
theorem dX5_holdGroup_121 : decode cX5_holdGroup 121 = .ok (.iload 6, 2) := by decide +kernel
theorem dX5_holdGroup_123 : decode cX5_holdGroup 123 = .ok (.iaload, 1) := by decide +kernel
theorem dX5_holdGroup_124 : decode cX5_holdGroup 124 = .ok (.iload 5, 2) := by decide +kernel
theorem dX5_holdGroup_126 : decode cX5_holdGroup 126 = .ok (.invokevirtual 118, 3) := by decide +kernel
theorem dX5_holdGroup_129 : decode cX5_holdGroup 129 = .ok (.iinc 6 1, 3) := by decide +kernel
theorem dX5_holdGroup_132 : decode cX5_holdGroup 132 = .ok (.goto (-51), 3) := by decide +kernel
theorem dX5_holdGroup_135 : decode cX5_holdGroup 135 = .ok (.iload 5, 2) := by decide +kernel
theorem dX5_holdGroup_137 : decode cX5_holdGroup 137 = .ok (.ireturn, 1) := by decide +kernel
theorem dX5_isTicket_0 : decode cX5_isTicket 0 = .ok (.iload_n 1, 1) := by decide +kernel
theorem dX5_isTicket_1 : decode cX5_isTicket 1 = .ok (.iconst 1, 1) := by decide +kernel
theorem dX5_isTicket_2 : decode cX5_isTicket 2 = .ok (.aload_n 0, 1) := by decide +kernel
theorem dX5_isTicket_3 : decode cX5_isTicket 3 = .ok (.getfield 106, 3) := by decide +kernel
theorem dX5_isTicket_6 : decode cX5_isTicket 6 = .ok (.invokestatic 56, 3) := by decide +kernel
theorem dX5_isTicket_9 : decode cX5_isTicket 9 = .ok (.ireturn, 1) := by decide +kernel
theorem dX5_tickets_0 : decode cX5_tickets 0 = .ok (.aload_n 0, 1) := by decide +kernel
theorem dX5_tickets_1 : decode cX5_tickets 1 = .ok (.iconst 0, 1) := by decide +kernel
theorem dX5_tickets_2 : decode cX5_tickets 2 = .ok (.putfield 52, 3) := by decide +kernel
theorem dX5_tickets_5 : decode cX5_tickets 5 = .ok (.aload_n 0, 1) := by decide +kernel
theorem dX5_tickets_6 : decode cX5_tickets 6 = .ok (.getfield 106, 3) := by decide +kernel
theorem dX5_tickets_9 : decode cX5_tickets 9 = .ok (.ireturn, 1) := by decide +kernel
theorem dX5_ticketState_0 : decode cX5_ticketState 0 = .ok (.aload_n 0, 1) := by decide +kernel
theorem dX5_ticketState_1 : decode cX5_ticketState 1 = .ok (.aload_n 0, 1) := by decide +kernel
theorem dX5_ticketState_2 : decode cX5_ticketState 2 = .ok (.iload_n 1, 1) := by decide +kernel
theorem dX5_ticketState_3 : decode cX5_ticketState 3 = .ok (.invokevirtual 143, 3) := by decide +kernel
theorem dX5_ticketState_6 : decode cX5_ticketState 6 = .ok (.ifCond .eq 7, 3) := by decide +kernel
theorem dX5_ticketState_9 : decode cX5_ticketState 9 = .ok (.iconst 0, 1) := by decide +kernel
theorem dX5_ticketState_10 : decode cX5_ticketState 10 = .ok (.goto 4, 3) := by decide +kernel
theorem dX5_ticketState_13 : decode cX5_ticketState 13 = .ok (.iconst 1, 1) := by decide +kernel
theorem dX5_ticketState_14 : decode cX5_ticketState 14 = .ok (.invokevirtual 63, 3) := by decide +kernel
theorem dX5_ticketState_17 : decode cX5_ticketState 17 = .ok (.ifCond .eq 12, 3) := by decide +kernel
theorem dX5_ticketState_20 : decode cX5_ticketState 20 = .ok (.aload_n 0, 1) := by decide +kernel
theorem dX5_ticketState_21 : decode cX5_ticketState 21 = .ok (.getfield 22, 3) := by decide +kernel
theorem dX5_ticketState_24 : decode cX5_ticketState 24 = .ok (.iload_n 1, 1) := by decide +kernel
theorem dX5_ticketState_25 : decode cX5_ticketState 25 = .ok (.iaload, 1) := by decide +kernel
theorem dX5_ticketState_26 : decode cX5_ticketState 26 = .ok (.goto 4, 3) := by decide +kernel
theorem dX5_ticketState_29 : decode cX5_ticketState 29 = .ok (.iconst 0, 1) := by decide +kernel
theorem dX5_ticketState_30 : decode cX5_ticketState 30 = .ok (.ireturn, 1) := by decide +kernel
theorem dX5_many_0 : decode cX5_many 0 = .ok (.iconst 0, 1) := by decide +kernel
theorem dX5_many_1 : decode cX5_many 1 = .ok (.istore_n 2, 1) := by decide +kernel
theorem dX5_many_2 : decode cX5_many 2 = .ok (.iconst 0, 1) := by decide +kernel
theorem dX5_many_3 : decode cX5_many 3 = .ok (.istore_n 3, 1) := by decide +kernel
theorem dX5_many_4 : decode cX5_many 4 = .ok (.iload_n 3, 1) := by decide +kernel
theorem dX5_many_5 : decode cX5_many 5 = .ok (.sipush 240, 3) := by decide +kernel
theorem dX5_many_8 : decode cX5_many 8 = .ok (.if_icmp .ge 27, 3) := by decide +kernel
theorem dX5_many_11 : decode cX5_many 11 = .ok (.iload_n 2, 1) := by decide +kernel
theorem dX5_many_12 : decode cX5_many 12 = .ok (.aload_n 0, 1) := by decide +kernel
theorem dX5_many_13 : decode cX5_many 13 = .ok (.getfield 19, 3) := by decide +kernel
theorem dX5_many_16 : decode cX5_many 16 = .ok (.iload_n 3, 1) := by decide +kernel
theorem dX5_many_17 : decode cX5_many 17 = .ok (.iaload, 1) := by decide +kernel
theorem dX5_many_18 : decode cX5_many 18 = .ok (.iload_n 1, 1) := by decide +kernel
theorem dX5_many_19 : decode cX5_many 19 = .ok (.if_icmp .ne 7, 3) := by decide +kernel
theorem dX5_many_22 : decode cX5_many 22 = .ok (.iconst 1, 1) := by decide +kernel
theorem dX5_many_23 : decode cX5_many 23 = .ok (.goto 4, 3) := by decide +kernel
theorem dX5_many_26 : decode cX5_many 26 = .ok (.iconst 0, 1) := by decide +kernel
theorem dX5_many_27 : decode cX5_many 27 = .ok (.iadd, 1) := by decide +kernel
theorem dX5_many_28 : decode cX5_many 28 = .ok (.istore_n 2, 1) := by decide +kernel
theorem dX5_many_29 : decode cX5_many 29 = .ok (.iinc 3 1, 3) := by decide +kernel
theorem dX5_many_32 : decode cX5_many 32 = .ok (.goto (-28), 3) := by decide +kernel
theorem dX5_many_35 : decode cX5_many 35 = .ok (.iload_n 2, 1) := by decide +kernel
theorem dX5_many_36 : decode cX5_many 36 = .ok (.ireturn, 1) := by decide +kernel
theorem dX5_seatsOf_0 : decode cX5_seatsOf 0 = .ok (.aload_n 0, 1) := by decide +kernel
theorem dX5_seatsOf_1 : decode cX5_seatsOf 1 = .ok (.aload_n 0, 1) := by decide +kernel
theorem dX5_seatsOf_2 : decode cX5_seatsOf 2 = .ok (.iload_n 1, 1) := by decide +kernel
theorem dX5_seatsOf_3 : decode cX5_seatsOf 3 = .ok (.invokevirtual 143, 3) := by decide +kernel
theorem dX5_seatsOf_6 : decode cX5_seatsOf 6 = .ok (.ifCond .eq 7, 3) := by decide +kernel
theorem dX5_seatsOf_9 : decode cX5_seatsOf 9 = .ok (.iconst 0, 1) := by decide +kernel
theorem dX5_seatsOf_10 : decode cX5_seatsOf 10 = .ok (.goto 4, 3) := by decide +kernel
theorem dX5_seatsOf_13 : decode cX5_seatsOf 13 = .ok (.iconst 1, 1) := by decide +kernel
theorem dX5_seatsOf_14 : decode cX5_seatsOf 14 = .ok (.invokevirtual 63, 3) := by decide +kernel
theorem dX5_seatsOf_17 : decode cX5_seatsOf 17 = .ok (.ifCond .eq 11, 3) := by decide +kernel
theorem dX5_seatsOf_20 : decode cX5_seatsOf 20 = .ok (.aload_n 0, 1) := by decide +kernel
theorem dX5_seatsOf_21 : decode cX5_seatsOf 21 = .ok (.iload_n 1, 1) := by decide +kernel
theorem dX5_seatsOf_22 : decode cX5_seatsOf 22 = .ok (.invokevirtual 146, 3) := by decide +kernel
theorem dX5_seatsOf_25 : decode cX5_seatsOf 25 = .ok (.goto 4, 3) := by decide +kernel
theorem dX5_seatsOf_28 : decode cX5_seatsOf 28 = .ok (.iconst 0, 1) := by decide +kernel
theorem dX5_seatsOf_29 : decode cX5_seatsOf 29 = .ok (.ireturn, 1) := by decide +kernel
theorem dX5_priced_0 : decode cX5_priced 0 = .ok (.iconst 0, 1) := by decide +kernel
theorem dX5_priced_1 : decode cX5_priced 1 = .ok (.istore_n 2, 1) := by decide +kernel
theorem dX5_priced_2 : decode cX5_priced 2 = .ok (.iconst 0, 1) := by decide +kernel
theorem dX5_priced_3 : decode cX5_priced 3 = .ok (.istore_n 3, 1) := by decide +kernel
theorem dX5_priced_4 : decode cX5_priced 4 = .ok (.iload_n 3, 1) := by decide +kernel
theorem dX5_priced_5 : decode cX5_priced 5 = .ok (.sipush 240, 3) := by decide +kernel
theorem dX5_priced_8 : decode cX5_priced 8 = .ok (.if_icmp .ge 35, 3) := by decide +kernel
theorem dX5_priced_11 : decode cX5_priced 11 = .ok (.iload_n 2, 1) := by decide +kernel
theorem dX5_priced_12 : decode cX5_priced 12 = .ok (.aload_n 0, 1) := by decide +kernel
theorem dX5_priced_13 : decode cX5_priced 13 = .ok (.getfield 19, 3) := by decide +kernel
theorem dX5_priced_16 : decode cX5_priced 16 = .ok (.iload_n 3, 1) := by decide +kernel
theorem dX5_priced_17 : decode cX5_priced 17 = .ok (.iaload, 1) := by decide +kernel
theorem dX5_priced_18 : decode cX5_priced 18 = .ok (.iload_n 1, 1) := by decide +kernel
theorem dX5_priced_19 : decode cX5_priced 19 = .ok (.if_icmp .ne 15, 3) := by decide +kernel
theorem dX5_priced_22 : decode cX5_priced 22 = .ok (.aload_n 0, 1) := by decide +kernel
theorem dX5_priced_23 : decode cX5_priced 23 = .ok (.getfield 16, 3) := by decide +kernel
theorem dX5_priced_26 : decode cX5_priced 26 = .ok (.iload_n 3, 1) := by decide +kernel
theorem dX5_priced_27 : decode cX5_priced 27 = .ok (.bipush 20, 2) := by decide +kernel
theorem dX5_priced_29 : decode cX5_priced 29 = .ok (.idiv, 1) := by decide +kernel
theorem dX5_priced_30 : decode cX5_priced 30 = .ok (.iaload, 1) := by decide +kernel
theorem dX5_priced_31 : decode cX5_priced 31 = .ok (.goto 4, 3) := by decide +kernel
theorem dX5_priced_34 : decode cX5_priced 34 = .ok (.iconst 0, 1) := by decide +kernel
theorem dX5_priced_35 : decode cX5_priced 35 = .ok (.iadd, 1) := by decide +kernel
theorem dX5_priced_36 : decode cX5_priced 36 = .ok (.istore_n 2, 1) := by decide +kernel
theorem dX5_priced_37 : decode cX5_priced 37 = .ok (.iinc 3 1, 3) := by decide +kernel
theorem dX5_priced_40 : decode cX5_priced 40 = .ok (.goto (-36), 3) := by decide +kernel
theorem dX5_priced_43 : decode cX5_priced 43 = .ok (.iload_n 2, 1) := by decide +kernel
theorem dX5_priced_44 : decode cX5_priced 44 = .ok (.ireturn, 1) := by decide +kernel
theorem dX5_priceOf_0 : decode cX5_priceOf 0 = .ok (.aload_n 0, 1) := by decide +kernel
theorem dX5_priceOf_1 : decode cX5_priceOf 1 = .ok (.aload_n 0, 1) := by decide +kernel
theorem dX5_priceOf_2 : decode cX5_priceOf 2 = .ok (.iload_n 1, 1) := by decide +kernel
theorem dX5_priceOf_3 : decode cX5_priceOf 3 = .ok (.invokevirtual 143, 3) := by decide +kernel
theorem dX5_priceOf_6 : decode cX5_priceOf 6 = .ok (.ifCond .eq 7, 3) := by decide +kernel
theorem dX5_priceOf_9 : decode cX5_priceOf 9 = .ok (.iconst 0, 1) := by decide +kernel
theorem dX5_priceOf_10 : decode cX5_priceOf 10 = .ok (.goto 4, 3) := by decide +kernel
theorem dX5_priceOf_13 : decode cX5_priceOf 13 = .ok (.iconst 1, 1) := by decide +kernel
theorem dX5_priceOf_14 : decode cX5_priceOf 14 = .ok (.invokevirtual 63, 3) := by decide +kernel
theorem dX5_priceOf_17 : decode cX5_priceOf 17 = .ok (.ifCond .eq 11, 3) := by decide +kernel
theorem dX5_priceOf_20 : decode cX5_priceOf 20 = .ok (.aload_n 0, 1) := by decide +kernel
theorem dX5_priceOf_21 : decode cX5_priceOf 21 = .ok (.iload_n 1, 1) := by decide +kernel
theorem dX5_priceOf_22 : decode cX5_priceOf 22 = .ok (.invokevirtual 149, 3) := by decide +kernel
theorem dX5_priceOf_25 : decode cX5_priceOf 25 = .ok (.goto 4, 3) := by decide +kernel
theorem dX5_priceOf_28 : decode cX5_priceOf 28 = .ok (.iconst 0, 1) := by decide +kernel
theorem dX5_priceOf_29 : decode cX5_priceOf 29 = .ok (.ireturn, 1) := by decide +kernel
theorem dX5_extend_0 : decode cX5_extend 0 = .ok (.aload_n 0, 1) := by decide +kernel
theorem dX5_extend_1 : decode cX5_extend 1 = .ok (.aload_n 0, 1) := by decide +kernel
theorem dX5_extend_2 : decode cX5_extend 2 = .ok (.iload_n 1, 1) := by decide +kernel
theorem dX5_extend_3 : decode cX5_extend 3 = .ok (.invokevirtual 143, 3) := by decide +kernel
theorem dX5_extend_6 : decode cX5_extend 6 = .ok (.ifCond .ne 7, 3) := by decide +kernel
theorem dX5_extend_9 : decode cX5_extend 9 = .ok (.iconst 1, 1) := by decide +kernel
theorem dX5_extend_10 : decode cX5_extend 10 = .ok (.goto 38, 3) := by decide +kernel
theorem dX5_extend_13 : decode cX5_extend 13 = .ok (.iload_n 2, 1) := by decide +kernel
theorem dX5_extend_14 : decode cX5_extend 14 = .ok (.invokestatic 112, 3) := by decide +kernel
theorem dX5_extend_17 : decode cX5_extend 17 = .ok (.ifCond .ne 7, 3) := by decide +kernel
theorem dX5_extend_20 : decode cX5_extend 20 = .ok (.iconst 2, 1) := by decide +kernel
theorem dX5_extend_21 : decode cX5_extend 21 = .ok (.goto 27, 3) := by decide +kernel
theorem dX5_extend_24 : decode cX5_extend 24 = .ok (.aload_n 0, 1) := by decide +kernel
theorem dX5_extend_25 : decode cX5_extend 25 = .ok (.getfield 22, 3) := by decide +kernel
theorem dX5_extend_28 : decode cX5_extend 28 = .ok (.iload_n 1, 1) := by decide +kernel
theorem dX5_extend_29 : decode cX5_extend 29 = .ok (.iaload, 1) := by decide +kernel
theorem dX5_extend_30 : decode cX5_extend 30 = .ok (.ifCond .ne 13, 3) := by decide +kernel
theorem dX5_extend_33 : decode cX5_extend 33 = .ok (.aload_n 0, 1) := by decide +kernel
theorem dX5_extend_34 : decode cX5_extend 34 = .ok (.getfield 28, 3) := by decide +kernel
theorem dX5_extend_37 : decode cX5_extend 37 = .ok (.iload_n 1, 1) := by decide +kernel
theorem dX5_extend_38 : decode cX5_extend 38 = .ok (.iaload, 1) := by decide +kernel
theorem dX5_extend_39 : decode cX5_extend 39 = .ok (.iconst 2, 1) := by decide +kernel
theorem dX5_extend_40 : decode cX5_extend 40 = .ok (.if_icmp .ne 7, 3) := by decide +kernel
theorem dX5_extend_43 : decode cX5_extend 43 = .ok (.iconst 3, 1) := by decide +kernel
theorem dX5_extend_44 : decode cX5_extend 44 = .ok (.goto 4, 3) := by decide +kernel
theorem dX5_extend_47 : decode cX5_extend 47 = .ok (.iconst 0, 1) := by decide +kernel
theorem dX5_extend_48 : decode cX5_extend 48 = .ok (.invokevirtual 63, 3) := by decide +kernel
theorem dX5_extend_51 : decode cX5_extend 51 = .ok (.ifCond .ne 5, 3) := by decide +kernel
theorem dX5_extend_54 : decode cX5_extend 54 = .ok (.iconst 0, 1) := by decide +kernel
theorem dX5_extend_55 : decode cX5_extend 55 = .ok (.ireturn, 1) := by decide +kernel
theorem dX5_extend_56 : decode cX5_extend 56 = .ok (.aload_n 0, 1) := by decide +kernel
theorem dX5_extend_57 : decode cX5_extend 57 = .ok (.getfield 28, 3) := by decide +kernel
theorem dX5_extend_60 : decode cX5_extend 60 = .ok (.iload_n 1, 1) := by decide +kernel
theorem dX5_extend_61 : decode cX5_extend 61 = .ok (.dup2, 1) := by decide +kernel
theorem dX5_extend_62 : decode cX5_extend 62 = .ok (.iaload, 1) := by decide +kernel
theorem dX5_extend_63 : decode cX5_extend 63 = .ok (.iconst 1, 1) := by decide +kernel
theorem dX5_extend_64 : decode cX5_extend 64 = .ok (.iadd, 1) := by decide +kernel
theorem dX5_extend_65 : decode cX5_extend 65 = .ok (.iastore, 1) := by decide +kernel
theorem dX5_extend_66 : decode cX5_extend 66 = .ok (.aload_n 0, 1) := by decide +kernel
theorem dX5_extend_67 : decode cX5_extend 67 = .ok (.getfield 25, 3) := by decide +kernel
theorem dX5_extend_70 : decode cX5_extend 70 = .ok (.iload_n 1, 1) := by decide +kernel
theorem dX5_extend_71 : decode cX5_extend 71 = .ok (.aload_n 0, 1) := by decide +kernel
theorem dX5_extend_72 : decode cX5_extend 72 = .ok (.getfield 109, 3) := by decide +kernel
theorem dX5_extend_75 : decode cX5_extend 75 = .ok (.iload_n 2, 1) := by decide +kernel
theorem dX5_extend_76 : decode cX5_extend 76 = .ok (.iadd, 1) := by decide +kernel
theorem dX5_extend_77 : decode cX5_extend 77 = .ok (.iastore, 1) := by decide +kernel
theorem dX5_extend_78 : decode cX5_extend 78 = .ok (.aload_n 0, 1) := by decide +kernel
theorem dX5_extend_79 : decode cX5_extend 79 = .ok (.getfield 25, 3) := by decide +kernel
theorem dX5_extend_82 : decode cX5_extend 82 = .ok (.iload_n 1, 1) := by decide +kernel
theorem dX5_extend_83 : decode cX5_extend 83 = .ok (.iaload, 1) := by decide +kernel
theorem dX5_extend_84 : decode cX5_extend 84 = .ok (.ireturn, 1) := by decide +kernel
theorem dX5_pay_0 : decode cX5_pay 0 = .ok (.aload_n 0, 1) := by decide +kernel
theorem dX5_pay_1 : decode cX5_pay 1 = .ok (.aload_n 0, 1) := by decide +kernel
theorem dX5_pay_2 : decode cX5_pay 2 = .ok (.iload_n 1, 1) := by decide +kernel
theorem dX5_pay_3 : decode cX5_pay 3 = .ok (.invokevirtual 143, 3) := by decide +kernel
theorem dX5_pay_6 : decode cX5_pay 6 = .ok (.ifCond .ne 7, 3) := by decide +kernel
theorem dX5_pay_9 : decode cX5_pay 9 = .ok (.iconst 1, 1) := by decide +kernel
theorem dX5_pay_10 : decode cX5_pay 10 = .ok (.goto 17, 3) := by decide +kernel
theorem dX5_pay_13 : decode cX5_pay 13 = .ok (.aload_n 0, 1) := by decide +kernel
theorem dX5_pay_14 : decode cX5_pay 14 = .ok (.getfield 22, 3) := by decide +kernel
theorem dX5_pay_17 : decode cX5_pay 17 = .ok (.iload_n 1, 1) := by decide +kernel
theorem dX5_pay_18 : decode cX5_pay 18 = .ok (.iaload, 1) := by decide +kernel
theorem dX5_pay_19 : decode cX5_pay 19 = .ok (.ifCond .eq 7, 3) := by decide +kernel
theorem dX5_pay_22 : decode cX5_pay 22 = .ok (.iconst 2, 1) := by decide +kernel
theorem dX5_pay_23 : decode cX5_pay 23 = .ok (.goto 4, 3) := by decide +kernel
theorem dX5_pay_26 : decode cX5_pay 26 = .ok (.iconst 0, 1) := by decide +kernel
theorem dX5_pay_27 : decode cX5_pay 27 = .ok (.invokevirtual 63, 3) := by decide +kernel
theorem dX5_pay_30 : decode cX5_pay 30 = .ok (.ifCond .ne 5, 3) := by decide +kernel
theorem dX5_pay_33 : decode cX5_pay 33 = .ok (.iconst 0, 1) := by decide +kernel
theorem dX5_pay_34 : decode cX5_pay 34 = .ok (.ireturn, 1) := by decide +kernel
theorem dX5_pay_35 : decode cX5_pay 35 = .ok (.aload_n 0, 1) := by decide +kernel
theorem dX5_pay_36 : decode cX5_pay 36 = .ok (.getfield 22, 3) := by decide +kernel
theorem dX5_pay_39 : decode cX5_pay 39 = .ok (.iload_n 1, 1) := by decide +kernel
theorem dX5_pay_40 : decode cX5_pay 40 = .ok (.iconst 1, 1) := by decide +kernel
theorem dX5_pay_41 : decode cX5_pay 41 = .ok (.iastore, 1) := by decide +kernel
theorem dX5_pay_42 : decode cX5_pay 42 = .ok (.aload_n 0, 1) := by decide +kernel
theorem dX5_pay_43 : decode cX5_pay 43 = .ok (.getfield 31, 3) := by decide +kernel
theorem dX5_pay_46 : decode cX5_pay 46 = .ok (.iload_n 1, 1) := by decide +kernel
theorem dX5_pay_47 : decode cX5_pay 47 = .ok (.aload_n 0, 1) := by decide +kernel
theorem dX5_pay_48 : decode cX5_pay 48 = .ok (.iload_n 1, 1) := by decide +kernel
theorem dX5_pay_49 : decode cX5_pay 49 = .ok (.invokevirtual 149, 3) := by decide +kernel
theorem dX5_pay_52 : decode cX5_pay 52 = .ok (.iastore, 1) := by decide +kernel
theorem dX5_pay_53 : decode cX5_pay 53 = .ok (.aload_n 0, 1) := by decide +kernel
theorem dX5_pay_54 : decode cX5_pay 54 = .ok (.dup, 1) := by decide +kernel
theorem dX5_pay_55 : decode cX5_pay 55 = .ok (.getfield 152, 3) := by decide +kernel
theorem dX5_pay_58 : decode cX5_pay 58 = .ok (.aload_n 0, 1) := by decide +kernel
theorem dX5_pay_59 : decode cX5_pay 59 = .ok (.getfield 31, 3) := by decide +kernel
theorem dX5_pay_62 : decode cX5_pay 62 = .ok (.iload_n 1, 1) := by decide +kernel
theorem dX5_pay_63 : decode cX5_pay 63 = .ok (.iaload, 1) := by decide +kernel
theorem dX5_pay_64 : decode cX5_pay 64 = .ok (.iadd, 1) := by decide +kernel
theorem dX5_pay_65 : decode cX5_pay 65 = .ok (.putfield 152, 3) := by decide +kernel
theorem dX5_pay_68 : decode cX5_pay 68 = .ok (.aload_n 0, 1) := by decide +kernel
theorem dX5_pay_69 : decode cX5_pay 69 = .ok (.getfield 31, 3) := by decide +kernel
theorem dX5_pay_72 : decode cX5_pay 72 = .ok (.iload_n 1, 1) := by decide +kernel
theorem dX5_pay_73 : decode cX5_pay 73 = .ok (.iaload, 1) := by decide +kernel
theorem dX5_pay_74 : decode cX5_pay 74 = .ok (.ireturn, 1) := by decide +kernel
theorem dX5_closes_0 : decode cX5_closes 0 = .ok (.aload_n 0, 1) := by decide +kernel
theorem dX5_closes_1 : decode cX5_closes 1 = .ok (.getfield 22, 3) := by decide +kernel
theorem dX5_closes_4 : decode cX5_closes 4 = .ok (.iload_n 1, 1) := by decide +kernel
theorem dX5_closes_5 : decode cX5_closes 5 = .ok (.iload_n 2, 1) := by decide +kernel
theorem dX5_closes_6 : decode cX5_closes 6 = .ok (.iastore, 1) := by decide +kernel
theorem dX5_closes_7 : decode cX5_closes 7 = .ok (.iconst 0, 1) := by decide +kernel
theorem dX5_closes_8 : decode cX5_closes 8 = .ok (.istore_n 3, 1) := by decide +kernel
theorem dX5_closes_9 : decode cX5_closes 9 = .ok (.iload_n 3, 1) := by decide +kernel
theorem dX5_closes_10 : decode cX5_closes 10 = .ok (.sipush 240, 3) := by decide +kernel
theorem dX5_closes_13 : decode cX5_closes 13 = .ok (.if_icmp .ge 35, 3) := by decide +kernel
theorem dX5_closes_16 : decode cX5_closes 16 = .ok (.aload_n 0, 1) := by decide +kernel
theorem dX5_closes_17 : decode cX5_closes 17 = .ok (.getfield 19, 3) := by decide +kernel
theorem dX5_closes_20 : decode cX5_closes 20 = .ok (.iload_n 3, 1) := by decide +kernel
theorem dX5_closes_21 : decode cX5_closes 21 = .ok (.aload_n 0, 1) := by decide +kernel
theorem dX5_closes_22 : decode cX5_closes 22 = .ok (.getfield 19, 3) := by decide +kernel
theorem dX5_closes_25 : decode cX5_closes 25 = .ok (.iload_n 3, 1) := by decide +kernel
theorem dX5_closes_26 : decode cX5_closes 26 = .ok (.iaload, 1) := by decide +kernel
theorem dX5_closes_27 : decode cX5_closes 27 = .ok (.iload_n 1, 1) := by decide +kernel
theorem dX5_closes_28 : decode cX5_closes 28 = .ok (.if_icmp .ne 7, 3) := by decide +kernel
theorem dX5_closes_31 : decode cX5_closes 31 = .ok (.iconst 0, 1) := by decide +kernel
theorem dX5_closes_32 : decode cX5_closes 32 = .ok (.goto 9, 3) := by decide +kernel
theorem dX5_closes_35 : decode cX5_closes 35 = .ok (.aload_n 0, 1) := by decide +kernel
theorem dX5_closes_36 : decode cX5_closes 36 = .ok (.getfield 19, 3) := by decide +kernel
theorem dX5_closes_39 : decode cX5_closes 39 = .ok (.iload_n 3, 1) := by decide +kernel
theorem dX5_closes_40 : decode cX5_closes 40 = .ok (.iaload, 1) := by decide +kernel
theorem dX5_closes_41 : decode cX5_closes 41 = .ok (.iastore, 1) := by decide +kernel
theorem dX5_closes_42 : decode cX5_closes 42 = .ok (.iinc 3 1, 3) := by decide +kernel
theorem dX5_closes_45 : decode cX5_closes 45 = .ok (.goto (-36), 3) := by decide +kernel
theorem dX5_closes_48 : decode cX5_closes 48 = .ok (.return_, 1) := by decide +kernel
theorem dX5_cancel_0 : decode cX5_cancel 0 = .ok (.aload_n 0, 1) := by decide +kernel
theorem dX5_cancel_1 : decode cX5_cancel 1 = .ok (.aload_n 0, 1) := by decide +kernel
theorem dX5_cancel_2 : decode cX5_cancel 2 = .ok (.iload_n 1, 1) := by decide +kernel
theorem dX5_cancel_3 : decode cX5_cancel 3 = .ok (.invokevirtual 143, 3) := by decide +kernel
theorem dX5_cancel_6 : decode cX5_cancel 6 = .ok (.ifCond .ne 7, 3) := by decide +kernel
theorem dX5_cancel_9 : decode cX5_cancel 9 = .ok (.iconst 1, 1) := by decide +kernel
theorem dX5_cancel_10 : decode cX5_cancel 10 = .ok (.goto 18, 3) := by decide +kernel
theorem dX5_cancel_13 : decode cX5_cancel 13 = .ok (.aload_n 0, 1) := by decide +kernel
theorem dX5_cancel_14 : decode cX5_cancel 14 = .ok (.getfield 22, 3) := by decide +kernel
theorem dX5_cancel_17 : decode cX5_cancel 17 = .ok (.iload_n 1, 1) := by decide +kernel
theorem dX5_cancel_18 : decode cX5_cancel 18 = .ok (.iaload, 1) := by decide +kernel
theorem dX5_cancel_19 : decode cX5_cancel 19 = .ok (.iconst 1, 1) := by decide +kernel
theorem dX5_cancel_20 : decode cX5_cancel 20 = .ok (.if_icmp .le 7, 3) := by decide +kernel
theorem dX5_cancel_23 : decode cX5_cancel 23 = .ok (.iconst 2, 1) := by decide +kernel
theorem dX5_cancel_24 : decode cX5_cancel 24 = .ok (.goto 4, 3) := by decide +kernel
theorem dX5_cancel_27 : decode cX5_cancel 27 = .ok (.iconst 0, 1) := by decide +kernel
theorem dX5_cancel_28 : decode cX5_cancel 28 = .ok (.invokevirtual 63, 3) := by decide +kernel
theorem dX5_cancel_31 : decode cX5_cancel 31 = .ok (.ifCond .ne 5, 3) := by decide +kernel
theorem dX5_cancel_34 : decode cX5_cancel 34 = .ok (.iconst 0, 1) := by decide +kernel
theorem dX5_cancel_35 : decode cX5_cancel 35 = .ok (.ireturn, 1) := by decide +kernel
theorem dX5_cancel_36 : decode cX5_cancel 36 = .ok (.aload_n 0, 1) := by decide +kernel
theorem dX5_cancel_37 : decode cX5_cancel 37 = .ok (.iload_n 1, 1) := by decide +kernel
theorem dX5_cancel_38 : decode cX5_cancel 38 = .ok (.iconst 3, 1) := by decide +kernel
theorem dX5_cancel_39 : decode cX5_cancel 39 = .ok (.invokevirtual 155, 3) := by decide +kernel
theorem dX5_cancel_42 : decode cX5_cancel 42 = .ok (.aload_n 0, 1) := by decide +kernel
theorem dX5_cancel_43 : decode cX5_cancel 43 = .ok (.dup, 1) := by decide +kernel
theorem dX5_cancel_44 : decode cX5_cancel 44 = .ok (.getfield 152, 3) := by decide +kernel
theorem dX5_cancel_47 : decode cX5_cancel 47 = .ok (.aload_n 0, 1) := by decide +kernel
theorem dX5_cancel_48 : decode cX5_cancel 48 = .ok (.getfield 31, 3) := by decide +kernel
theorem dX5_cancel_51 : decode cX5_cancel 51 = .ok (.iload_n 1, 1) := by decide +kernel
theorem dX5_cancel_52 : decode cX5_cancel 52 = .ok (.iaload, 1) := by decide +kernel
theorem dX5_cancel_53 : decode cX5_cancel 53 = .ok (.isub, 1) := by decide +kernel
theorem dX5_cancel_54 : decode cX5_cancel 54 = .ok (.putfield 152, 3) := by decide +kernel
theorem dX5_cancel_57 : decode cX5_cancel 57 = .ok (.aload_n 0, 1) := by decide +kernel
theorem dX5_cancel_58 : decode cX5_cancel 58 = .ok (.getfield 31, 3) := by decide +kernel
theorem dX5_cancel_61 : decode cX5_cancel 61 = .ok (.iload_n 1, 1) := by decide +kernel
theorem dX5_cancel_62 : decode cX5_cancel 62 = .ok (.iaload, 1) := by decide +kernel
theorem dX5_cancel_63 : decode cX5_cancel 63 = .ok (.ireturn, 1) := by decide +kernel
theorem dX5_takings_0 : decode cX5_takings 0 = .ok (.aload_n 0, 1) := by decide +kernel
theorem dX5_takings_1 : decode cX5_takings 1 = .ok (.iconst 0, 1) := by decide +kernel
theorem dX5_takings_2 : decode cX5_takings 2 = .ok (.putfield 52, 3) := by decide +kernel
theorem dX5_takings_5 : decode cX5_takings 5 = .ok (.aload_n 0, 1) := by decide +kernel
theorem dX5_takings_6 : decode cX5_takings 6 = .ok (.getfield 152, 3) := by decide +kernel
theorem dX5_takings_9 : decode cX5_takings 9 = .ok (.ireturn, 1) := by decide +kernel
theorem dX5_now_0 : decode cX5_now 0 = .ok (.aload_n 0, 1) := by decide +kernel
theorem dX5_now_1 : decode cX5_now 1 = .ok (.iconst 0, 1) := by decide +kernel
theorem dX5_now_2 : decode cX5_now 2 = .ok (.putfield 52, 3) := by decide +kernel
theorem dX5_now_5 : decode cX5_now 5 = .ok (.aload_n 0, 1) := by decide +kernel
theorem dX5_now_6 : decode cX5_now 6 = .ok (.getfield 109, 3) := by decide +kernel
theorem dX5_now_9 : decode cX5_now 9 = .ok (.ireturn, 1) := by decide +kernel
theorem dX5_pass_0 : decode cX5_pass 0 = .ok (.aload_n 0, 1) := by decide +kernel
theorem dX5_pass_1 : decode cX5_pass 1 = .ok (.iload_n 1, 1) := by decide +kernel
theorem dX5_pass_2 : decode cX5_pass 2 = .ok (.iconst 1, 1) := by decide +kernel
theorem dX5_pass_3 : decode cX5_pass 3 = .ok (.sipush 1000, 3) := by decide +kernel
theorem dX5_pass_6 : decode cX5_pass 6 = .ok (.invokestatic 56, 3) := by decide +kernel
theorem dX5_pass_9 : decode cX5_pass 9 = .ok (.ifCond .eq 7, 3) := by decide +kernel
theorem dX5_pass_12 : decode cX5_pass 12 = .ok (.iconst 0, 1) := by decide +kernel
theorem dX5_pass_13 : decode cX5_pass 13 = .ok (.goto 4, 3) := by decide +kernel
theorem dX5_pass_16 : decode cX5_pass 16 = .ok (.iconst 1, 1) := by decide +kernel
theorem dX5_pass_17 : decode cX5_pass 17 = .ok (.invokevirtual 63, 3) := by decide +kernel
theorem dX5_pass_20 : decode cX5_pass 20 = .ok (.ifCond .ne 5, 3) := by decide +kernel
theorem dX5_pass_23 : decode cX5_pass 23 = .ok (.iconst 0, 1) := by decide +kernel
theorem dX5_pass_24 : decode cX5_pass 24 = .ok (.ireturn, 1) := by decide +kernel
theorem dX5_pass_25 : decode cX5_pass 25 = .ok (.aload_n 0, 1) := by decide +kernel
theorem dX5_pass_26 : decode cX5_pass 26 = .ok (.dup, 1) := by decide +kernel
theorem dX5_pass_27 : decode cX5_pass 27 = .ok (.getfield 109, 3) := by decide +kernel
theorem dX5_pass_30 : decode cX5_pass 30 = .ok (.iload_n 1, 1) := by decide +kernel
theorem dX5_pass_31 : decode cX5_pass 31 = .ok (.iadd, 1) := by decide +kernel
theorem dX5_pass_32 : decode cX5_pass 32 = .ok (.putfield 109, 3) := by decide +kernel
theorem dX5_pass_35 : decode cX5_pass 35 = .ok (.iconst 0, 1) := by decide +kernel
theorem dX5_pass_36 : decode cX5_pass 36 = .ok (.istore_n 2, 1) := by decide +kernel
theorem dX5_pass_37 : decode cX5_pass 37 = .ok (.iconst 1, 1) := by decide +kernel
theorem dX5_pass_38 : decode cX5_pass 38 = .ok (.istore_n 3, 1) := by decide +kernel
theorem dX5_pass_39 : decode cX5_pass 39 = .ok (.iload_n 3, 1) := by decide +kernel
theorem dX5_pass_40 : decode cX5_pass 40 = .ok (.aload_n 0, 1) := by decide +kernel
theorem dX5_pass_41 : decode cX5_pass 41 = .ok (.getfield 106, 3) := by decide +kernel
theorem dX5_pass_44 : decode cX5_pass 44 = .ok (.if_icmp .gt 40, 3) := by decide +kernel
theorem dX5_pass_47 : decode cX5_pass 47 = .ok (.aload_n 0, 1) := by decide +kernel
theorem dX5_pass_48 : decode cX5_pass 48 = .ok (.getfield 22, 3) := by decide +kernel
theorem dX5_pass_51 : decode cX5_pass 51 = .ok (.iload_n 3, 1) := by decide +kernel
theorem dX5_pass_52 : decode cX5_pass 52 = .ok (.iaload, 1) := by decide +kernel
theorem dX5_pass_53 : decode cX5_pass 53 = .ok (.ifCond .ne 25, 3) := by decide +kernel
theorem dX5_pass_56 : decode cX5_pass 56 = .ok (.aload_n 0, 1) := by decide +kernel
theorem dX5_pass_57 : decode cX5_pass 57 = .ok (.getfield 25, 3) := by decide +kernel
theorem dX5_pass_60 : decode cX5_pass 60 = .ok (.iload_n 3, 1) := by decide +kernel
theorem dX5_pass_61 : decode cX5_pass 61 = .ok (.iaload, 1) := by decide +kernel
theorem dX5_pass_62 : decode cX5_pass 62 = .ok (.aload_n 0, 1) := by decide +kernel
theorem dX5_pass_63 : decode cX5_pass 63 = .ok (.getfield 109, 3) := by decide +kernel
theorem dX5_pass_66 : decode cX5_pass 66 = .ok (.if_icmp .gt 12, 3) := by decide +kernel
theorem dX5_pass_69 : decode cX5_pass 69 = .ok (.aload_n 0, 1) := by decide +kernel
theorem dX5_pass_70 : decode cX5_pass 70 = .ok (.iload_n 3, 1) := by decide +kernel
theorem dX5_pass_71 : decode cX5_pass 71 = .ok (.iconst 2, 1) := by decide +kernel
theorem dX5_pass_72 : decode cX5_pass 72 = .ok (.invokevirtual 155, 3) := by decide +kernel
theorem dX5_pass_75 : decode cX5_pass 75 = .ok (.iinc 2 1, 3) := by decide +kernel
theorem dX5_pass_78 : decode cX5_pass 78 = .ok (.iinc 3 1, 3) := by decide +kernel
theorem dX5_pass_81 : decode cX5_pass 81 = .ok (.goto (-42), 3) := by decide +kernel
theorem dX5_pass_84 : decode cX5_pass 84 = .ok (.iload_n 2, 1) := by decide +kernel
theorem dX5_pass_85 : decode cX5_pass 85 = .ok (.ireturn, 1) := by decide +kernel
theorem dX5_nextExpiry_0 : decode cX5_nextExpiry 0 = .ok (.iconst (-1), 1) := by decide +kernel
theorem dX5_nextExpiry_1 : decode cX5_nextExpiry 1 = .ok (.istore_n 1, 1) := by decide +kernel
theorem dX5_nextExpiry_2 : decode cX5_nextExpiry 2 = .ok (.iconst 1, 1) := by decide +kernel
theorem dX5_nextExpiry_3 : decode cX5_nextExpiry 3 = .ok (.istore_n 2, 1) := by decide +kernel
theorem dX5_nextExpiry_4 : decode cX5_nextExpiry 4 = .ok (.iload_n 2, 1) := by decide +kernel
theorem dX5_nextExpiry_5 : decode cX5_nextExpiry 5 = .ok (.aload_n 0, 1) := by decide +kernel
theorem dX5_nextExpiry_6 : decode cX5_nextExpiry 6 = .ok (.getfield 106, 3) := by decide +kernel
theorem dX5_nextExpiry_9 : decode cX5_nextExpiry 9 = .ok (.if_icmp .gt 39, 3) := by decide +kernel
theorem dX5_nextExpiry_12 : decode cX5_nextExpiry 12 = .ok (.aload_n 0, 1) := by decide +kernel
theorem dX5_nextExpiry_13 : decode cX5_nextExpiry 13 = .ok (.getfield 22, 3) := by decide +kernel
theorem dX5_nextExpiry_16 : decode cX5_nextExpiry 16 = .ok (.iload_n 2, 1) := by decide +kernel
theorem dX5_nextExpiry_17 : decode cX5_nextExpiry 17 = .ok (.iaload, 1) := by decide +kernel
theorem dX5_nextExpiry_18 : decode cX5_nextExpiry 18 = .ok (.ifCond .ne 24, 3) := by decide +kernel
theorem dX5_nextExpiry_21 : decode cX5_nextExpiry 21 = .ok (.iload_n 1, 1) := by decide +kernel
theorem dX5_nextExpiry_22 : decode cX5_nextExpiry 22 = .ok (.ifCond .lt 13, 3) := by decide +kernel
theorem dX5_nextExpiry_25 : decode cX5_nextExpiry 25 = .ok (.aload_n 0, 1) := by decide +kernel
theorem dX5_nextExpiry_26 : decode cX5_nextExpiry 26 = .ok (.getfield 25, 3) := by decide +kernel
theorem dX5_nextExpiry_29 : decode cX5_nextExpiry 29 = .ok (.iload_n 2, 1) := by decide +kernel
theorem dX5_nextExpiry_30 : decode cX5_nextExpiry 30 = .ok (.iaload, 1) := by decide +kernel
theorem dX5_nextExpiry_31 : decode cX5_nextExpiry 31 = .ok (.iload_n 1, 1) := by decide +kernel
theorem dX5_nextExpiry_32 : decode cX5_nextExpiry 32 = .ok (.if_icmp .ge 10, 3) := by decide +kernel
theorem dX5_nextExpiry_35 : decode cX5_nextExpiry 35 = .ok (.aload_n 0, 1) := by decide +kernel
theorem dX5_nextExpiry_36 : decode cX5_nextExpiry 36 = .ok (.getfield 25, 3) := by decide +kernel
theorem dX5_nextExpiry_39 : decode cX5_nextExpiry 39 = .ok (.iload_n 2, 1) := by decide +kernel
theorem dX5_nextExpiry_40 : decode cX5_nextExpiry 40 = .ok (.iaload, 1) := by decide +kernel
theorem dX5_nextExpiry_41 : decode cX5_nextExpiry 41 = .ok (.istore_n 1, 1) := by decide +kernel
theorem dX5_nextExpiry_42 : decode cX5_nextExpiry 42 = .ok (.iinc 2 1, 3) := by decide +kernel
theorem dX5_nextExpiry_45 : decode cX5_nextExpiry 45 = .ok (.goto (-41), 3) := by decide +kernel
theorem dX5_nextExpiry_48 : decode cX5_nextExpiry 48 = .ok (.aload_n 0, 1) := by decide +kernel
theorem dX5_nextExpiry_49 : decode cX5_nextExpiry 49 = .ok (.iload_n 1, 1) := by decide +kernel
theorem dX5_nextExpiry_50 : decode cX5_nextExpiry 50 = .ok (.ifCond .ge 7, 3) := by decide +kernel
theorem dX5_nextExpiry_53 : decode cX5_nextExpiry 53 = .ok (.iconst 1, 1) := by decide +kernel
theorem dX5_nextExpiry_54 : decode cX5_nextExpiry 54 = .ok (.goto 4, 3) := by decide +kernel
theorem dX5_nextExpiry_57 : decode cX5_nextExpiry 57 = .ok (.iconst 0, 1) := by decide +kernel
theorem dX5_nextExpiry_58 : decode cX5_nextExpiry 58 = .ok (.invokevirtual 63, 3) := by decide +kernel
theorem dX5_nextExpiry_61 : decode cX5_nextExpiry 61 = .ok (.ifCond .eq 7, 3) := by decide +kernel
theorem dX5_nextExpiry_64 : decode cX5_nextExpiry 64 = .ok (.iload_n 1, 1) := by decide +kernel
theorem dX5_nextExpiry_65 : decode cX5_nextExpiry 65 = .ok (.goto 4, 3) := by decide +kernel
theorem dX5_nextExpiry_68 : decode cX5_nextExpiry 68 = .ok (.iconst 0, 1) := by decide +kernel
theorem dX5_nextExpiry_69 : decode cX5_nextExpiry 69 = .ok (.ireturn, 1) := by decide +kernel
theorem dX5_firstOf_0 : decode cX5_firstOf 0 = .ok (.iconst 0, 1) := by decide +kernel
theorem dX5_firstOf_1 : decode cX5_firstOf 1 = .ok (.istore_n 2, 1) := by decide +kernel
theorem dX5_firstOf_2 : decode cX5_firstOf 2 = .ok (.iload_n 2, 1) := by decide +kernel
theorem dX5_firstOf_3 : decode cX5_firstOf 3 = .ok (.sipush 240, 3) := by decide +kernel
theorem dX5_firstOf_6 : decode cX5_firstOf 6 = .ok (.if_icmp .ge 21, 3) := by decide +kernel
theorem dX5_firstOf_9 : decode cX5_firstOf 9 = .ok (.aload_n 0, 1) := by decide +kernel
theorem dX5_firstOf_10 : decode cX5_firstOf 10 = .ok (.getfield 19, 3) := by decide +kernel
theorem dX5_firstOf_13 : decode cX5_firstOf 13 = .ok (.iload_n 2, 1) := by decide +kernel
theorem dX5_firstOf_14 : decode cX5_firstOf 14 = .ok (.iaload, 1) := by decide +kernel
theorem dX5_firstOf_15 : decode cX5_firstOf 15 = .ok (.iload_n 1, 1) := by decide +kernel
theorem dX5_firstOf_16 : decode cX5_firstOf 16 = .ok (.if_icmp .ne 5, 3) := by decide +kernel
theorem dX5_firstOf_19 : decode cX5_firstOf 19 = .ok (.iload_n 2, 1) := by decide +kernel
theorem dX5_firstOf_20 : decode cX5_firstOf 20 = .ok (.ireturn, 1) := by decide +kernel
theorem dX5_firstOf_21 : decode cX5_firstOf 21 = .ok (.iinc 2 1, 3) := by decide +kernel
theorem dX5_firstOf_24 : decode cX5_firstOf 24 = .ok (.goto (-22), 3) := by decide +kernel
theorem dX5_firstOf_27 : decode cX5_firstOf 27 = .ok (.iconst (-1), 1) := by decide +kernel
theorem dX5_firstOf_28 : decode cX5_firstOf 28 = .ok (.ireturn, 1) := by decide +kernel
theorem dX5_lastOf_0 : decode cX5_lastOf 0 = .ok (.iconst (-1), 1) := by decide +kernel
theorem dX5_lastOf_1 : decode cX5_lastOf 1 = .ok (.istore_n 2, 1) := by decide +kernel
theorem dX5_lastOf_2 : decode cX5_lastOf 2 = .ok (.iconst 0, 1) := by decide +kernel
theorem dX5_lastOf_3 : decode cX5_lastOf 3 = .ok (.istore_n 3, 1) := by decide +kernel
theorem dX5_lastOf_4 : decode cX5_lastOf 4 = .ok (.iload_n 3, 1) := by decide +kernel
theorem dX5_lastOf_5 : decode cX5_lastOf 5 = .ok (.sipush 240, 3) := by decide +kernel
theorem dX5_lastOf_8 : decode cX5_lastOf 8 = .ok (.if_icmp .ge 25, 3) := by decide +kernel
theorem dX5_lastOf_11 : decode cX5_lastOf 11 = .ok (.aload_n 0, 1) := by decide +kernel
theorem dX5_lastOf_12 : decode cX5_lastOf 12 = .ok (.getfield 19, 3) := by decide +kernel
theorem dX5_lastOf_15 : decode cX5_lastOf 15 = .ok (.iload_n 3, 1) := by decide +kernel
theorem dX5_lastOf_16 : decode cX5_lastOf 16 = .ok (.iaload, 1) := by decide +kernel
theorem dX5_lastOf_17 : decode cX5_lastOf 17 = .ok (.iload_n 1, 1) := by decide +kernel
theorem dX5_lastOf_18 : decode cX5_lastOf 18 = .ok (.if_icmp .ne 7, 3) := by decide +kernel
theorem dX5_lastOf_21 : decode cX5_lastOf 21 = .ok (.iload_n 3, 1) := by decide +kernel
theorem dX5_lastOf_22 : decode cX5_lastOf 22 = .ok (.goto 4, 3) := by decide +kernel
theorem dX5_lastOf_25 : decode cX5_lastOf 25 = .ok (.iload_n 2, 1) := by decide +kernel
theorem dX5_lastOf_26 : decode cX5_lastOf 26 = .ok (.istore_n 2, 1) := by decide +kernel
theorem dX5_lastOf_27 : decode cX5_lastOf 27 = .ok (.iinc 3 1, 3) := by decide +kernel
theorem dX5_lastOf_30 : decode cX5_lastOf 30 = .ok (.goto (-26), 3) := by decide +kernel
theorem dX5_lastOf_33 : decode cX5_lastOf 33 = .ok (.iload_n 2, 1) := by decide +kernel
theorem dX5_lastOf_34 : decode cX5_lastOf 34 = .ok (.ireturn, 1) := by decide +kernel
theorem dX5_mayWish_0 : decode cX5_mayWish 0 = .ok (.aload_n 0, 1) := by decide +kernel
theorem dX5_mayWish_1 : decode cX5_mayWish 1 = .ok (.getfield 22, 3) := by decide +kernel
theorem dX5_mayWish_4 : decode cX5_mayWish 4 = .ok (.iload_n 1, 1) := by decide +kernel
theorem dX5_mayWish_5 : decode cX5_mayWish 5 = .ok (.iaload, 1) := by decide +kernel
theorem dX5_mayWish_6 : decode cX5_mayWish 6 = .ok (.iconst 1, 1) := by decide +kernel
theorem dX5_mayWish_7 : decode cX5_mayWish 7 = .ok (.if_icmp .ne 38, 3) := by decide +kernel
theorem dX5_mayWish_10 : decode cX5_mayWish 10 = .ok (.aload_n 0, 1) := by decide +kernel
theorem dX5_mayWish_11 : decode cX5_mayWish 11 = .ok (.iload_n 1, 1) := by decide +kernel
theorem dX5_mayWish_12 : decode cX5_mayWish 12 = .ok (.invokevirtual 158, 3) := by decide +kernel
theorem dX5_mayWish_15 : decode cX5_mayWish 15 = .ok (.bipush 20, 2) := by decide +kernel
theorem dX5_mayWish_17 : decode cX5_mayWish 17 = .ok (.idiv, 1) := by decide +kernel
theorem dX5_mayWish_18 : decode cX5_mayWish 18 = .ok (.aload_n 0, 1) := by decide +kernel
theorem dX5_mayWish_19 : decode cX5_mayWish 19 = .ok (.iload_n 1, 1) := by decide +kernel
theorem dX5_mayWish_20 : decode cX5_mayWish 20 = .ok (.invokevirtual 161, 3) := by decide +kernel
theorem dX5_mayWish_23 : decode cX5_mayWish 23 = .ok (.bipush 20, 2) := by decide +kernel
theorem dX5_mayWish_25 : decode cX5_mayWish 25 = .ok (.idiv, 1) := by decide +kernel
theorem dX5_mayWish_26 : decode cX5_mayWish 26 = .ok (.if_icmp .ne 19, 3) := by decide +kernel
theorem dX5_mayWish_29 : decode cX5_mayWish 29 = .ok (.aload_n 0, 1) := by decide +kernel
theorem dX5_mayWish_30 : decode cX5_mayWish 30 = .ok (.iload_n 1, 1) := by decide +kernel
theorem dX5_mayWish_31 : decode cX5_mayWish 31 = .ok (.invokevirtual 158, 3) := by decide +kernel
theorem dX5_mayWish_34 : decode cX5_mayWish 34 = .ok (.bipush 20, 2) := by decide +kernel
theorem dX5_mayWish_36 : decode cX5_mayWish 36 = .ok (.idiv, 1) := by decide +kernel
theorem dX5_mayWish_37 : decode cX5_mayWish 37 = .ok (.iload_n 2, 1) := by decide +kernel
theorem dX5_mayWish_38 : decode cX5_mayWish 38 = .ok (.if_icmp .eq 7, 3) := by decide +kernel
theorem dX5_mayWish_41 : decode cX5_mayWish 41 = .ok (.iconst 1, 1) := by decide +kernel
theorem dX5_mayWish_42 : decode cX5_mayWish 42 = .ok (.goto 4, 3) := by decide +kernel
theorem dX5_mayWish_45 : decode cX5_mayWish 45 = .ok (.iconst 0, 1) := by decide +kernel
theorem dX5_mayWish_46 : decode cX5_mayWish 46 = .ok (.ireturn, 1) := by decide +kernel
theorem dX5_wish_0 : decode cX5_wish 0 = .ok (.aload_n 0, 1) := by decide +kernel
theorem dX5_wish_1 : decode cX5_wish 1 = .ok (.aload_n 0, 1) := by decide +kernel
theorem dX5_wish_2 : decode cX5_wish 2 = .ok (.iload_n 1, 1) := by decide +kernel
theorem dX5_wish_3 : decode cX5_wish 3 = .ok (.invokevirtual 143, 3) := by decide +kernel
theorem dX5_wish_6 : decode cX5_wish 6 = .ok (.ifCond .eq 11, 3) := by decide +kernel
theorem dX5_wish_9 : decode cX5_wish 9 = .ok (.aload_n 0, 1) := by decide +kernel
theorem dX5_wish_10 : decode cX5_wish 10 = .ok (.iload_n 2, 1) := by decide +kernel
theorem dX5_wish_11 : decode cX5_wish 11 = .ok (.invokevirtual 67, 3) := by decide +kernel
theorem dX5_wish_14 : decode cX5_wish 14 = .ok (.ifCond .ne 7, 3) := by decide +kernel
theorem dX5_wish_17 : decode cX5_wish 17 = .ok (.iconst 1, 1) := by decide +kernel
theorem dX5_wish_18 : decode cX5_wish 18 = .ok (.goto 17, 3) := by decide +kernel
theorem dX5_wish_21 : decode cX5_wish 21 = .ok (.aload_n 0, 1) := by decide +kernel
theorem dX5_wish_22 : decode cX5_wish 22 = .ok (.iload_n 1, 1) := by decide +kernel
theorem dX5_wish_23 : decode cX5_wish 23 = .ok (.iload_n 2, 1) := by decide +kernel
theorem dX5_wish_24 : decode cX5_wish 24 = .ok (.invokevirtual 164, 3) := by decide +kernel
theorem dX5_wish_27 : decode cX5_wish 27 = .ok (.ifCond .eq 7, 3) := by decide +kernel
theorem dX5_wish_30 : decode cX5_wish 30 = .ok (.iconst 0, 1) := by decide +kernel
theorem dX5_wish_31 : decode cX5_wish 31 = .ok (.goto 4, 3) := by decide +kernel
theorem dX5_wish_34 : decode cX5_wish 34 = .ok (.iconst 2, 1) := by decide +kernel
theorem dX5_wish_35 : decode cX5_wish 35 = .ok (.invokevirtual 63, 3) := by decide +kernel
theorem dX5_wish_38 : decode cX5_wish 38 = .ok (.ifCond .ne 5, 3) := by decide +kernel
theorem dX5_wish_41 : decode cX5_wish 41 = .ok (.iconst 0, 1) := by decide +kernel
theorem dX5_wish_42 : decode cX5_wish 42 = .ok (.ireturn, 1) := by decide +kernel
theorem dX5_wish_43 : decode cX5_wish 43 = .ok (.aload_n 0, 1) := by decide +kernel
theorem dX5_wish_44 : decode cX5_wish 44 = .ok (.getfield 34, 3) := by decide +kernel
theorem dX5_wish_47 : decode cX5_wish 47 = .ok (.iload_n 1, 1) := by decide +kernel
theorem dX5_wish_48 : decode cX5_wish 48 = .ok (.iaload, 1) := by decide +kernel
theorem dX5_wish_49 : decode cX5_wish 49 = .ok (.istore_n 3, 1) := by decide +kernel
theorem dX5_wish_50 : decode cX5_wish 50 = .ok (.aload_n 0, 1) := by decide +kernel
theorem dX5_wish_51 : decode cX5_wish 51 = .ok (.getfield 34, 3) := by decide +kernel
theorem dX5_wish_54 : decode cX5_wish 54 = .ok (.iload_n 1, 1) := by decide +kernel
theorem dX5_wish_55 : decode cX5_wish 55 = .ok (.iload_n 2, 1) := by decide +kernel
theorem dX5_wish_56 : decode cX5_wish 56 = .ok (.iastore, 1) := by decide +kernel
theorem dX5_wish_57 : decode cX5_wish 57 = .ok (.iload_n 3, 1) := by decide +kernel
theorem dX5_wish_58 : decode cX5_wish 58 = .ok (.ireturn, 1) := by decide +kernel
theorem dX5_hasWish_0 : decode cX5_hasWish 0 = .ok (.aload_n 0, 1) := by decide +kernel
theorem dX5_hasWish_1 : decode cX5_hasWish 1 = .ok (.getfield 22, 3) := by decide +kernel
theorem dX5_hasWish_4 : decode cX5_hasWish 4 = .ok (.iload_n 1, 1) := by decide +kernel
theorem dX5_hasWish_5 : decode cX5_hasWish 5 = .ok (.iaload, 1) := by decide +kernel
theorem dX5_hasWish_6 : decode cX5_hasWish 6 = .ok (.iconst 1, 1) := by decide +kernel
theorem dX5_hasWish_7 : decode cX5_hasWish 7 = .ok (.if_icmp .ne 16, 3) := by decide +kernel
theorem dX5_hasWish_10 : decode cX5_hasWish 10 = .ok (.aload_n 0, 1) := by decide +kernel
theorem dX5_hasWish_11 : decode cX5_hasWish 11 = .ok (.getfield 34, 3) := by decide +kernel
theorem dX5_hasWish_14 : decode cX5_hasWish 14 = .ok (.iload_n 1, 1) := by decide +kernel
theorem dX5_hasWish_15 : decode cX5_hasWish 15 = .ok (.iaload, 1) := by decide +kernel
theorem dX5_hasWish_16 : decode cX5_hasWish 16 = .ok (.ifCond .lt 7, 3) := by decide +kernel
theorem dX5_hasWish_19 : decode cX5_hasWish 19 = .ok (.iconst 1, 1) := by decide +kernel
theorem dX5_hasWish_20 : decode cX5_hasWish 20 = .ok (.goto 4, 3) := by decide +kernel
theorem dX5_hasWish_23 : decode cX5_hasWish 23 = .ok (.iconst 0, 1) := by decide +kernel
theorem dX5_hasWish_24 : decode cX5_hasWish 24 = .ok (.ireturn, 1) := by decide +kernel
theorem dX5_laysFar_0 : decode cX5_laysFar 0 = .ok (.iconst 1, 1) := by decide +kernel
theorem dX5_laysFar_1 : decode cX5_laysFar 1 = .ok (.istore_n 3, 1) := by decide +kernel
theorem dX5_laysFar_2 : decode cX5_laysFar 2 = .ok (.iload_n 3, 1) := by decide +kernel
theorem dX5_laysFar_3 : decode cX5_laysFar 3 = .ok (.aload_n 0, 1) := by decide +kernel
theorem dX5_laysFar_4 : decode cX5_laysFar 4 = .ok (.getfield 106, 3) := by decide +kernel
theorem dX5_laysFar_7 : decode cX5_laysFar 7 = .ok (.if_icmp .gt 113, 3) := by decide +kernel
theorem dX5_laysFar_10 : decode cX5_laysFar 10 = .ok (.aload_n 0, 1) := by decide +kernel
theorem dX5_laysFar_11 : decode cX5_laysFar 11 = .ok (.iload_n 3, 1) := by decide +kernel
theorem dX5_laysFar_12 : decode cX5_laysFar 12 = .ok (.invokevirtual 167, 3) := by decide +kernel
theorem dX5_laysFar_15 : decode cX5_laysFar 15 = .ok (.ifCond .eq 16, 3) := by decide +kernel
theorem dX5_laysFar_18 : decode cX5_laysFar 18 = .ok (.aload_n 0, 1) := by decide +kernel
theorem dX5_laysFar_19 : decode cX5_laysFar 19 = .ok (.iload_n 3, 1) := by decide +kernel
theorem dX5_laysFar_20 : decode cX5_laysFar 20 = .ok (.invokevirtual 146, 3) := by decide +kernel
theorem dX5_laysFar_23 : decode cX5_laysFar 23 = .ok (.iload_n 2, 1) := by decide +kernel
theorem dX5_laysFar_24 : decode cX5_laysFar 24 = .ok (.if_icmp .ne 7, 3) := by decide +kernel
theorem dX5_laysFar_27 : decode cX5_laysFar 27 = .ok (.iconst 1, 1) := by decide +kernel
theorem dX5_laysFar_28 : decode cX5_laysFar 28 = .ok (.goto 4, 3) := by decide +kernel
theorem dX5_laysFar_31 : decode cX5_laysFar 31 = .ok (.iconst 0, 1) := by decide +kernel
theorem dX5_laysFar_32 : decode cX5_laysFar 32 = .ok (.istore 4, 2) := by decide +kernel
theorem dX5_laysFar_34 : decode cX5_laysFar 34 = .ok (.iload 4, 2) := by decide +kernel
theorem dX5_laysFar_36 : decode cX5_laysFar 36 = .ok (.ifCond .eq 39, 3) := by decide +kernel
theorem dX5_laysFar_39 : decode cX5_laysFar 39 = .ok (.aload_n 0, 1) := by decide +kernel
theorem dX5_laysFar_40 : decode cX5_laysFar 40 = .ok (.aload_n 0, 1) := by decide +kernel
theorem dX5_laysFar_41 : decode cX5_laysFar 41 = .ok (.getfield 34, 3) := by decide +kernel
theorem dX5_laysFar_44 : decode cX5_laysFar 44 = .ok (.iload_n 3, 1) := by decide +kernel
theorem dX5_laysFar_45 : decode cX5_laysFar 45 = .ok (.iaload, 1) := by decide +kernel
theorem dX5_laysFar_46 : decode cX5_laysFar 46 = .ok (.iload_n 2, 1) := by decide +kernel
theorem dX5_laysFar_47 : decode cX5_laysFar 47 = .ok (.iconst 0, 1) := by decide +kernel
theorem dX5_laysFar_48 : decode cX5_laysFar 48 = .ok (.invokevirtual 95, 3) := by decide +kernel
theorem dX5_laysFar_51 : decode cX5_laysFar 51 = .ok (.ifCond .ge 20, 3) := by decide +kernel
theorem dX5_laysFar_54 : decode cX5_laysFar 54 = .ok (.aload_n 0, 1) := by decide +kernel
theorem dX5_laysFar_55 : decode cX5_laysFar 55 = .ok (.getfield 34, 3) := by decide +kernel
theorem dX5_laysFar_58 : decode cX5_laysFar 58 = .ok (.iload_n 3, 1) := by decide +kernel
theorem dX5_laysFar_59 : decode cX5_laysFar 59 = .ok (.iaload, 1) := by decide +kernel
theorem dX5_laysFar_60 : decode cX5_laysFar 60 = .ok (.aload_n 0, 1) := by decide +kernel
theorem dX5_laysFar_61 : decode cX5_laysFar 61 = .ok (.iload_n 1, 1) := by decide +kernel
theorem dX5_laysFar_62 : decode cX5_laysFar 62 = .ok (.invokevirtual 158, 3) := by decide +kernel
theorem dX5_laysFar_65 : decode cX5_laysFar 65 = .ok (.bipush 20, 2) := by decide +kernel
theorem dX5_laysFar_67 : decode cX5_laysFar 67 = .ok (.idiv, 1) := by decide +kernel
theorem dX5_laysFar_68 : decode cX5_laysFar 68 = .ok (.if_icmp .ne 7, 3) := by decide +kernel
theorem dX5_laysFar_71 : decode cX5_laysFar 71 = .ok (.iconst 1, 1) := by decide +kernel
theorem dX5_laysFar_72 : decode cX5_laysFar 72 = .ok (.goto 4, 3) := by decide +kernel
theorem dX5_laysFar_75 : decode cX5_laysFar 75 = .ok (.iconst 0, 1) := by decide +kernel
theorem dX5_laysFar_76 : decode cX5_laysFar 76 = .ok (.istore 5, 2) := by decide +kernel
theorem dX5_laysFar_78 : decode cX5_laysFar 78 = .ok (.aload_n 0, 1) := by decide +kernel
theorem dX5_laysFar_79 : decode cX5_laysFar 79 = .ok (.getfield 43, 3) := by decide +kernel
theorem dX5_laysFar_82 : decode cX5_laysFar 82 = .ok (.iload_n 3, 1) := by decide +kernel
theorem dX5_laysFar_83 : decode cX5_laysFar 83 = .ok (.iload 5, 2) := by decide +kernel
theorem dX5_laysFar_85 : decode cX5_laysFar 85 = .ok (.ifCond .eq 7, 3) := by decide +kernel
theorem dX5_laysFar_88 : decode cX5_laysFar 88 = .ok (.iconst 1, 1) := by decide +kernel
theorem dX5_laysFar_89 : decode cX5_laysFar 89 = .ok (.goto 4, 3) := by decide +kernel
theorem dX5_laysFar_92 : decode cX5_laysFar 92 = .ok (.iconst 0, 1) := by decide +kernel
theorem dX5_laysFar_93 : decode cX5_laysFar 93 = .ok (.iastore, 1) := by decide +kernel
theorem dX5_laysFar_94 : decode cX5_laysFar 94 = .ok (.aload_n 0, 1) := by decide +kernel
theorem dX5_laysFar_95 : decode cX5_laysFar 95 = .ok (.getfield 49, 3) := by decide +kernel
theorem dX5_laysFar_98 : decode cX5_laysFar 98 = .ok (.iload_n 3, 1) := by decide +kernel
theorem dX5_laysFar_99 : decode cX5_laysFar 99 = .ok (.iload 4, 2) := by decide +kernel
theorem dX5_laysFar_101 : decode cX5_laysFar 101 = .ok (.ifCond .eq 11, 3) := by decide +kernel
theorem dX5_laysFar_104 : decode cX5_laysFar 104 = .ok (.aload_n 0, 1) := by decide +kernel
theorem dX5_laysFar_105 : decode cX5_laysFar 105 = .ok (.iload_n 3, 1) := by decide +kernel
theorem dX5_laysFar_106 : decode cX5_laysFar 106 = .ok (.invokevirtual 158, 3) := by decide +kernel
theorem dX5_laysFar_109 : decode cX5_laysFar 109 = .ok (.goto 4, 3) := by decide +kernel
theorem dX5_laysFar_112 : decode cX5_laysFar 112 = .ok (.iconst (-1), 1) := by decide +kernel
theorem dX5_laysFar_113 : decode cX5_laysFar 113 = .ok (.iastore, 1) := by decide +kernel
theorem dX5_laysFar_114 : decode cX5_laysFar 114 = .ok (.iinc 3 1, 3) := by decide +kernel
theorem dX5_laysFar_117 : decode cX5_laysFar 117 = .ok (.goto (-115), 3) := by decide +kernel
theorem dX5_laysFar_120 : decode cX5_laysFar 120 = .ok (.iconst 1, 1) := by decide +kernel
theorem dX5_laysFar_121 : decode cX5_laysFar 121 = .ok (.istore_n 3, 1) := by decide +kernel
theorem dX5_laysFar_122 : decode cX5_laysFar 122 = .ok (.iload_n 3, 1) := by decide +kernel
theorem dX5_laysFar_123 : decode cX5_laysFar 123 = .ok (.aload_n 0, 1) := by decide +kernel
theorem dX5_laysFar_124 : decode cX5_laysFar 124 = .ok (.getfield 106, 3) := by decide +kernel
theorem dX5_laysFar_127 : decode cX5_laysFar 127 = .ok (.if_icmp .ge 101, 3) := by decide +kernel
theorem dX5_laysFar_130 : decode cX5_laysFar 130 = .ok (.iconst 1, 1) := by decide +kernel
theorem dX5_laysFar_131 : decode cX5_laysFar 131 = .ok (.istore 4, 2) := by decide +kernel
theorem dX5_laysFar_133 : decode cX5_laysFar 133 = .ok (.iload 4, 2) := by decide +kernel
theorem dX5_laysFar_135 : decode cX5_laysFar 135 = .ok (.aload_n 0, 1) := by decide +kernel
theorem dX5_laysFar_136 : decode cX5_laysFar 136 = .ok (.getfield 106, 3) := by decide +kernel
theorem dX5_laysFar_139 : decode cX5_laysFar 139 = .ok (.if_icmp .gt 83, 3) := by decide +kernel
theorem dX5_laysFar_142 : decode cX5_laysFar 142 = .ok (.iconst 1, 1) := by decide +kernel
theorem dX5_laysFar_143 : decode cX5_laysFar 143 = .ok (.istore 5, 2) := by decide +kernel
theorem dX5_laysFar_145 : decode cX5_laysFar 145 = .ok (.iload 5, 2) := by decide +kernel
theorem dX5_laysFar_147 : decode cX5_laysFar 147 = .ok (.aload_n 0, 1) := by decide +kernel
theorem dX5_laysFar_148 : decode cX5_laysFar 148 = .ok (.getfield 106, 3) := by decide +kernel
theorem dX5_laysFar_151 : decode cX5_laysFar 151 = .ok (.if_icmp .gt 65, 3) := by decide +kernel
theorem dX5_laysFar_154 : decode cX5_laysFar 154 = .ok (.aload_n 0, 1) := by decide +kernel
theorem dX5_laysFar_155 : decode cX5_laysFar 155 = .ok (.getfield 49, 3) := by decide +kernel
theorem dX5_laysFar_158 : decode cX5_laysFar 158 = .ok (.iload 4, 2) := by decide +kernel
theorem dX5_laysFar_160 : decode cX5_laysFar 160 = .ok (.iaload, 1) := by decide +kernel
theorem dX5_laysFar_161 : decode cX5_laysFar 161 = .ok (.ifCond .lt 55, 3) := by decide +kernel
theorem dX5_laysFar_164 : decode cX5_laysFar 164 = .ok (.aload_n 0, 1) := by decide +kernel
theorem dX5_laysFar_165 : decode cX5_laysFar 165 = .ok (.getfield 43, 3) := by decide +kernel
theorem dX5_laysFar_168 : decode cX5_laysFar 168 = .ok (.iload 4, 2) := by decide +kernel
theorem dX5_laysFar_170 : decode cX5_laysFar 170 = .ok (.iaload, 1) := by decide +kernel
theorem dX5_laysFar_171 : decode cX5_laysFar 171 = .ok (.ifCond .ne 45, 3) := by decide +kernel
theorem dX5_laysFar_174 : decode cX5_laysFar 174 = .ok (.aload_n 0, 1) := by decide +kernel
theorem dX5_laysFar_175 : decode cX5_laysFar 175 = .ok (.getfield 43, 3) := by decide +kernel
theorem dX5_laysFar_178 : decode cX5_laysFar 178 = .ok (.iload 4, 2) := by decide +kernel
theorem dX5_laysFar_180 : decode cX5_laysFar 180 = .ok (.aload_n 0, 1) := by decide +kernel
theorem dX5_laysFar_181 : decode cX5_laysFar 181 = .ok (.iload 4, 2) := by decide +kernel
theorem dX5_laysFar_183 : decode cX5_laysFar 183 = .ok (.iload 5, 2) := by decide +kernel
theorem dX5_laysFar_185 : decode cX5_laysFar 185 = .ok (.invokevirtual 170, 3) := by decide +kernel
theorem dX5_laysFar_188 : decode cX5_laysFar 188 = .ok (.ifCond .eq 20, 3) := by decide +kernel
theorem dX5_laysFar_191 : decode cX5_laysFar 191 = .ok (.aload_n 0, 1) := by decide +kernel
theorem dX5_laysFar_192 : decode cX5_laysFar 192 = .ok (.getfield 43, 3) := by decide +kernel
theorem dX5_laysFar_195 : decode cX5_laysFar 195 = .ok (.iload 5, 2) := by decide +kernel
theorem dX5_laysFar_197 : decode cX5_laysFar 197 = .ok (.iaload, 1) := by decide +kernel
theorem dX5_laysFar_198 : decode cX5_laysFar 198 = .ok (.iload_n 3, 1) := by decide +kernel
theorem dX5_laysFar_199 : decode cX5_laysFar 199 = .ok (.if_icmp .ne 9, 3) := by decide +kernel
theorem dX5_laysFar_202 : decode cX5_laysFar 202 = .ok (.iload_n 3, 1) := by decide +kernel
theorem dX5_laysFar_203 : decode cX5_laysFar 203 = .ok (.iconst 1, 1) := by decide +kernel
theorem dX5_laysFar_204 : decode cX5_laysFar 204 = .ok (.iadd, 1) := by decide +kernel
theorem dX5_laysFar_205 : decode cX5_laysFar 205 = .ok (.goto 4, 3) := by decide +kernel
theorem dX5_laysFar_208 : decode cX5_laysFar 208 = .ok (.iconst 0, 1) := by decide +kernel
theorem dX5_laysFar_209 : decode cX5_laysFar 209 = .ok (.iastore, 1) := by decide +kernel
theorem dX5_laysFar_210 : decode cX5_laysFar 210 = .ok (.iinc 5 1, 3) := by decide +kernel
theorem dX5_laysFar_213 : decode cX5_laysFar 213 = .ok (.goto (-68), 3) := by decide +kernel
theorem dX5_laysFar_216 : decode cX5_laysFar 216 = .ok (.iinc 4 1, 3) := by decide +kernel
theorem dX5_laysFar_219 : decode cX5_laysFar 219 = .ok (.goto (-86), 3) := by decide +kernel
theorem dX5_laysFar_222 : decode cX5_laysFar 222 = .ok (.iinc 3 1, 3) := by decide +kernel
theorem dX5_laysFar_225 : decode cX5_laysFar 225 = .ok (.goto (-103), 3) := by decide +kernel
theorem dX5_laysFar_228 : decode cX5_laysFar 228 = .ok (.return_, 1) := by decide +kernel
theorem dX5_follows_0 : decode cX5_follows 0 = .ok (.aload_n 0, 1) := by decide +kernel
theorem dX5_follows_1 : decode cX5_follows 1 = .ok (.getfield 49, 3) := by decide +kernel
theorem dX5_follows_4 : decode cX5_follows 4 = .ok (.iload_n 2, 1) := by decide +kernel
theorem dX5_follows_5 : decode cX5_follows 5 = .ok (.iaload, 1) := by decide +kernel
theorem dX5_follows_6 : decode cX5_follows 6 = .ok (.ifCond .lt 25, 3) := by decide +kernel
theorem dX5_follows_9 : decode cX5_follows 9 = .ok (.aload_n 0, 1) := by decide +kernel
theorem dX5_follows_10 : decode cX5_follows 10 = .ok (.getfield 49, 3) := by decide +kernel
theorem dX5_follows_13 : decode cX5_follows 13 = .ok (.iload_n 2, 1) := by decide +kernel
theorem dX5_follows_14 : decode cX5_follows 14 = .ok (.iaload, 1) := by decide +kernel
theorem dX5_follows_15 : decode cX5_follows 15 = .ok (.bipush 20, 2) := by decide +kernel
theorem dX5_follows_17 : decode cX5_follows 17 = .ok (.idiv, 1) := by decide +kernel
theorem dX5_follows_18 : decode cX5_follows 18 = .ok (.aload_n 0, 1) := by decide +kernel
theorem dX5_follows_19 : decode cX5_follows 19 = .ok (.getfield 34, 3) := by decide +kernel
theorem dX5_follows_22 : decode cX5_follows 22 = .ok (.iload_n 1, 1) := by decide +kernel
theorem dX5_follows_23 : decode cX5_follows 23 = .ok (.iaload, 1) := by decide +kernel
theorem dX5_follows_24 : decode cX5_follows 24 = .ok (.if_icmp .ne 7, 3) := by decide +kernel
theorem dX5_follows_27 : decode cX5_follows 27 = .ok (.iconst 1, 1) := by decide +kernel
theorem dX5_follows_28 : decode cX5_follows 28 = .ok (.goto 4, 3) := by decide +kernel
theorem dX5_follows_31 : decode cX5_follows 31 = .ok (.iconst 0, 1) := by decide +kernel
theorem dX5_follows_32 : decode cX5_follows 32 = .ok (.ireturn, 1) := by decide +kernel
theorem dX5_exchange_0 : decode cX5_exchange 0 = .ok (.aload_n 0, 1) := by decide +kernel
theorem dX5_exchange_1 : decode cX5_exchange 1 = .ok (.iload_n 1, 1) := by decide +kernel
theorem dX5_exchange_2 : decode cX5_exchange 2 = .ok (.invokevirtual 143, 3) := by decide +kernel
theorem dX5_exchange_5 : decode cX5_exchange 5 = .ok (.ifCond .eq 15, 3) := by decide +kernel
theorem dX5_exchange_8 : decode cX5_exchange 8 = .ok (.aload_n 0, 1) := by decide +kernel
theorem dX5_exchange_9 : decode cX5_exchange 9 = .ok (.iload_n 1, 1) := by decide +kernel
theorem dX5_exchange_10 : decode cX5_exchange 10 = .ok (.invokevirtual 167, 3) := by decide +kernel
theorem dX5_exchange_13 : decode cX5_exchange 13 = .ok (.ifCond .eq 7, 3) := by decide +kernel
theorem dX5_exchange_16 : decode cX5_exchange 16 = .ok (.iconst 1, 1) := by decide +kernel
theorem dX5_exchange_17 : decode cX5_exchange 17 = .ok (.goto 4, 3) := by decide +kernel
theorem dX5_exchange_20 : decode cX5_exchange 20 = .ok (.iconst 0, 1) := by decide +kernel
theorem dX5_exchange_21 : decode cX5_exchange 21 = .ok (.istore_n 2, 1) := by decide +kernel
theorem dX5_exchange_22 : decode cX5_exchange 22 = .ok (.iload_n 2, 1) := by decide +kernel
theorem dX5_exchange_23 : decode cX5_exchange 23 = .ok (.ifCond .eq 11, 3) := by decide +kernel
theorem dX5_exchange_26 : decode cX5_exchange 26 = .ok (.aload_n 0, 1) := by decide +kernel
theorem dX5_exchange_27 : decode cX5_exchange 27 = .ok (.iload_n 1, 1) := by decide +kernel
theorem dX5_exchange_28 : decode cX5_exchange 28 = .ok (.invokevirtual 146, 3) := by decide +kernel
theorem dX5_exchange_31 : decode cX5_exchange 31 = .ok (.goto 4, 3) := by decide +kernel
theorem dX5_exchange_34 : decode cX5_exchange 34 = .ok (.iconst 0, 1) := by decide +kernel
theorem dX5_exchange_35 : decode cX5_exchange 35 = .ok (.istore_n 3, 1) := by decide +kernel
theorem dX5_exchange_36 : decode cX5_exchange 36 = .ok (.iload_n 2, 1) := by decide +kernel
theorem dX5_exchange_37 : decode cX5_exchange 37 = .ok (.ifCond .eq 9, 3) := by decide +kernel
theorem dX5_exchange_40 : decode cX5_exchange 40 = .ok (.aload_n 0, 1) := by decide +kernel
theorem dX5_exchange_41 : decode cX5_exchange 41 = .ok (.iload_n 1, 1) := by decide +kernel
theorem dX5_exchange_42 : decode cX5_exchange 42 = .ok (.iload_n 3, 1) := by decide +kernel
theorem dX5_exchange_43 : decode cX5_exchange 43 = .ok (.invokevirtual 173, 3) := by decide +kernel
theorem dX5_exchange_46 : decode cX5_exchange 46 = .ok (.aload_n 0, 1) := by decide +kernel
theorem dX5_exchange_47 : decode cX5_exchange 47 = .ok (.aload_n 0, 1) := by decide +kernel
theorem dX5_exchange_48 : decode cX5_exchange 48 = .ok (.iload_n 1, 1) := by decide +kernel
theorem dX5_exchange_49 : decode cX5_exchange 49 = .ok (.invokevirtual 143, 3) := by decide +kernel
theorem dX5_exchange_52 : decode cX5_exchange 52 = .ok (.ifCond .ne 7, 3) := by decide +kernel
theorem dX5_exchange_55 : decode cX5_exchange 55 = .ok (.iconst 1, 1) := by decide +kernel
theorem dX5_exchange_56 : decode cX5_exchange 56 = .ok (.goto 21, 3) := by decide +kernel
theorem dX5_exchange_59 : decode cX5_exchange 59 = .ok (.iload_n 2, 1) := by decide +kernel
theorem dX5_exchange_60 : decode cX5_exchange 60 = .ok (.ifCond .eq 12, 3) := by decide +kernel
theorem dX5_exchange_63 : decode cX5_exchange 63 = .ok (.aload_n 0, 1) := by decide +kernel
theorem dX5_exchange_64 : decode cX5_exchange 64 = .ok (.getfield 43, 3) := by decide +kernel
theorem dX5_exchange_67 : decode cX5_exchange 67 = .ok (.iload_n 1, 1) := by decide +kernel
theorem dX5_exchange_68 : decode cX5_exchange 68 = .ok (.iaload, 1) := by decide +kernel
theorem dX5_exchange_69 : decode cX5_exchange 69 = .ok (.ifCond .ne 7, 3) := by decide +kernel
theorem dX5_exchange_72 : decode cX5_exchange 72 = .ok (.iconst 2, 1) := by decide +kernel
theorem dX5_exchange_73 : decode cX5_exchange 73 = .ok (.goto 4, 3) := by decide +kernel
theorem dX5_exchange_76 : decode cX5_exchange 76 = .ok (.iconst 0, 1) := by decide +kernel
theorem dX5_exchange_77 : decode cX5_exchange 77 = .ok (.invokevirtual 63, 3) := by decide +kernel
theorem dX5_exchange_80 : decode cX5_exchange 80 = .ok (.ifCond .ne 5, 3) := by decide +kernel
theorem dX5_exchange_83 : decode cX5_exchange 83 = .ok (.iconst 0, 1) := by decide +kernel
theorem dX5_exchange_84 : decode cX5_exchange 84 = .ok (.ireturn, 1) := by decide +kernel
theorem dX5_exchange_85 : decode cX5_exchange 85 = .ok (.aload_n 0, 1) := by decide +kernel
theorem dX5_exchange_86 : decode cX5_exchange 86 = .ok (.getfield 43, 3) := by decide +kernel
theorem dX5_exchange_89 : decode cX5_exchange 89 = .ok (.iload_n 1, 1) := by decide +kernel
theorem dX5_exchange_90 : decode cX5_exchange 90 = .ok (.iaload, 1) := by decide +kernel
theorem dX5_exchange_91 : decode cX5_exchange 91 = .ok (.istore 4, 2) := by decide +kernel
theorem dX5_exchange_93 : decode cX5_exchange 93 = .ok (.aload_n 0, 1) := by decide +kernel
theorem dX5_exchange_94 : decode cX5_exchange 94 = .ok (.getfield 46, 3) := by decide +kernel
theorem dX5_exchange_97 : decode cX5_exchange 97 = .ok (.iconst 0, 1) := by decide +kernel
theorem dX5_exchange_98 : decode cX5_exchange 98 = .ok (.iload_n 1, 1) := by decide +kernel
theorem dX5_exchange_99 : decode cX5_exchange 99 = .ok (.iastore, 1) := by decide +kernel
theorem dX5_exchange_100 : decode cX5_exchange 100 = .ok (.iconst 1, 1) := by decide +kernel
theorem dX5_exchange_101 : decode cX5_exchange 101 = .ok (.istore 5, 2) := by decide +kernel
theorem dX5_exchange_103 : decode cX5_exchange 103 = .ok (.iload 5, 2) := by decide +kernel
theorem dX5_exchange_105 : decode cX5_exchange 105 = .ok (.iload 4, 2) := by decide +kernel
theorem dX5_exchange_107 : decode cX5_exchange 107 = .ok (.if_icmp .ge 60, 3) := by decide +kernel
theorem dX5_exchange_110 : decode cX5_exchange 110 = .ok (.iconst 1, 1) := by decide +kernel
theorem dX5_exchange_111 : decode cX5_exchange 111 = .ok (.istore 6, 2) := by decide +kernel
theorem dX5_exchange_113 : decode cX5_exchange 113 = .ok (.aload_n 0, 1) := by decide +kernel
theorem dX5_exchange_114 : decode cX5_exchange 114 = .ok (.aload_n 0, 1) := by decide +kernel
theorem dX5_exchange_115 : decode cX5_exchange 115 = .ok (.getfield 46, 3) := by decide +kernel
theorem dX5_exchange_118 : decode cX5_exchange 118 = .ok (.iload 5, 2) := by decide +kernel
theorem dX5_exchange_120 : decode cX5_exchange 120 = .ok (.iconst 1, 1) := by decide +kernel
theorem dX5_exchange_121 : decode cX5_exchange 121 = .ok (.isub, 1) := by decide +kernel
theorem dX5_exchange_122 : decode cX5_exchange 122 = .ok (.iaload, 1) := by decide +kernel
theorem dX5_exchange_123 : decode cX5_exchange 123 = .ok (.iload 6, 2) := by decide +kernel
theorem dX5_exchange_125 : decode cX5_exchange 125 = .ok (.invokevirtual 170, 3) := by decide +kernel
theorem dX5_exchange_128 : decode cX5_exchange 128 = .ok (.ifCond .eq 18, 3) := by decide +kernel
theorem dX5_exchange_131 : decode cX5_exchange 131 = .ok (.aload_n 0, 1) := by decide +kernel
theorem dX5_exchange_132 : decode cX5_exchange 132 = .ok (.getfield 43, 3) := by decide +kernel
theorem dX5_exchange_135 : decode cX5_exchange 135 = .ok (.iload 6, 2) := by decide +kernel
theorem dX5_exchange_137 : decode cX5_exchange 137 = .ok (.iaload, 1) := by decide +kernel
theorem dX5_exchange_138 : decode cX5_exchange 138 = .ok (.iload 4, 2) := by decide +kernel
theorem dX5_exchange_140 : decode cX5_exchange 140 = .ok (.iload 5, 2) := by decide +kernel
theorem dX5_exchange_142 : decode cX5_exchange 142 = .ok (.isub, 1) := by decide +kernel
theorem dX5_exchange_143 : decode cX5_exchange 143 = .ok (.if_icmp .eq 9, 3) := by decide +kernel
theorem dX5_exchange_146 : decode cX5_exchange 146 = .ok (.iinc 6 1, 3) := by decide +kernel
theorem dX5_exchange_149 : decode cX5_exchange 149 = .ok (.goto (-36), 3) := by decide +kernel
theorem dX5_exchange_152 : decode cX5_exchange 152 = .ok (.aload_n 0, 1) := by decide +kernel
theorem dX5_exchange_153 : decode cX5_exchange 153 = .ok (.getfield 46, 3) := by decide +kernel
theorem dX5_exchange_156 : decode cX5_exchange 156 = .ok (.iload 5, 2) := by decide +kernel
theorem dX5_exchange_158 : decode cX5_exchange 158 = .ok (.iload 6, 2) := by decide +kernel
theorem dX5_exchange_160 : decode cX5_exchange 160 = .ok (.iastore, 1) := by decide +kernel
theorem dX5_exchange_161 : decode cX5_exchange 161 = .ok (.iinc 5 1, 3) := by decide +kernel
theorem dX5_exchange_164 : decode cX5_exchange 164 = .ok (.goto (-61), 3) := by decide +kernel
theorem dX5_exchange_167 : decode cX5_exchange 167 = .ok (.aload_n 0, 1) := by decide +kernel
theorem dX5_exchange_168 : decode cX5_exchange 168 = .ok (.iload 4, 2) := by decide +kernel
theorem dX5_exchange_170 : decode cX5_exchange 170 = .ok (.iload_n 3, 1) := by decide +kernel
theorem dX5_exchange_171 : decode cX5_exchange 171 = .ok (.invokevirtual 176, 3) := by decide +kernel
theorem dX5_exchange_174 : decode cX5_exchange 174 = .ok (.iload 4, 2) := by decide +kernel
theorem dX5_exchange_176 : decode cX5_exchange 176 = .ok (.ireturn, 1) := by decide +kernel
theorem dX5_changes_0 : decode cX5_changes 0 = .ok (.aload_n 0, 1) := by decide +kernel
theorem dX5_changes_1 : decode cX5_changes 1 = .ok (.getfield 46, 3) := by decide +kernel
theorem dX5_changes_4 : decode cX5_changes 4 = .ok (.iload_n 1, 1) := by decide +kernel
theorem dX5_changes_5 : decode cX5_changes 5 = .ok (.iconst 1, 1) := by decide +kernel
theorem dX5_changes_6 : decode cX5_changes 6 = .ok (.isub, 1) := by decide +kernel
theorem dX5_changes_7 : decode cX5_changes 7 = .ok (.iaload, 1) := by decide +kernel
theorem dX5_changes_8 : decode cX5_changes 8 = .ok (.istore_n 3, 1) := by decide +kernel
theorem dX5_changes_9 : decode cX5_changes 9 = .ok (.aload_n 0, 1) := by decide +kernel
theorem dX5_changes_10 : decode cX5_changes 10 = .ok (.aload_n 0, 1) := by decide +kernel
theorem dX5_changes_11 : decode cX5_changes 11 = .ok (.getfield 34, 3) := by decide +kernel
theorem dX5_changes_14 : decode cX5_changes 14 = .ok (.iload_n 3, 1) := by decide +kernel
theorem dX5_changes_15 : decode cX5_changes 15 = .ok (.iaload, 1) := by decide +kernel
theorem dX5_changes_16 : decode cX5_changes 16 = .ok (.iload_n 2, 1) := by decide +kernel
theorem dX5_changes_17 : decode cX5_changes 17 = .ok (.iconst 0, 1) := by decide +kernel
theorem dX5_changes_18 : decode cX5_changes 18 = .ok (.invokevirtual 95, 3) := by decide +kernel
theorem dX5_changes_21 : decode cX5_changes 21 = .ok (.istore 4, 2) := by decide +kernel
theorem dX5_changes_23 : decode cX5_changes 23 = .ok (.iload 4, 2) := by decide +kernel
theorem dX5_changes_25 : decode cX5_changes 25 = .ok (.ifCond .ge 17, 3) := by decide +kernel
theorem dX5_changes_28 : decode cX5_changes 28 = .ok (.aload_n 0, 1) := by decide +kernel
theorem dX5_changes_29 : decode cX5_changes 29 = .ok (.getfield 49, 3) := by decide +kernel
theorem dX5_changes_32 : decode cX5_changes 32 = .ok (.aload_n 0, 1) := by decide +kernel
theorem dX5_changes_33 : decode cX5_changes 33 = .ok (.getfield 46, 3) := by decide +kernel
theorem dX5_changes_36 : decode cX5_changes 36 = .ok (.iconst 0, 1) := by decide +kernel
theorem dX5_changes_37 : decode cX5_changes 37 = .ok (.iaload, 1) := by decide +kernel
theorem dX5_changes_38 : decode cX5_changes 38 = .ok (.iaload, 1) := by decide +kernel
theorem dX5_changes_39 : decode cX5_changes 39 = .ok (.goto 15, 3) := by decide +kernel
theorem dX5_changes_42 : decode cX5_changes 42 = .ok (.bipush 20, 2) := by decide +kernel
theorem dX5_changes_44 : decode cX5_changes 44 = .ok (.aload_n 0, 1) := by decide +kernel
theorem dX5_changes_45 : decode cX5_changes 45 = .ok (.getfield 34, 3) := by decide +kernel
theorem dX5_changes_48 : decode cX5_changes 48 = .ok (.iload_n 3, 1) := by decide +kernel
theorem dX5_changes_49 : decode cX5_changes 49 = .ok (.iaload, 1) := by decide +kernel
theorem dX5_changes_50 : decode cX5_changes 50 = .ok (.imul, 1) := by decide +kernel
theorem dX5_changes_51 : decode cX5_changes 51 = .ok (.iload 4, 2) := by decide +kernel
theorem dX5_changes_53 : decode cX5_changes 53 = .ok (.iadd, 1) := by decide +kernel
theorem dX5_changes_54 : decode cX5_changes 54 = .ok (.istore 5, 2) := by decide +kernel
theorem dX5_changes_56 : decode cX5_changes 56 = .ok (.iload 4, 2) := by decide +kernel
theorem dX5_changes_58 : decode cX5_changes 58 = .ok (.ifCond .lt 37, 3) := by decide +kernel
theorem dX5_changes_61 : decode cX5_changes 61 = .ok (.aload_n 0, 1) := by decide +kernel
theorem dX5_changes_62 : decode cX5_changes 62 = .ok (.aload_n 0, 1) := by decide +kernel
theorem dX5_changes_63 : decode cX5_changes 63 = .ok (.getfield 49, 3) := by decide +kernel
theorem dX5_changes_66 : decode cX5_changes 66 = .ok (.aload_n 0, 1) := by decide +kernel
theorem dX5_changes_67 : decode cX5_changes 67 = .ok (.getfield 46, 3) := by decide +kernel
theorem dX5_changes_70 : decode cX5_changes 70 = .ok (.iconst 0, 1) := by decide +kernel
theorem dX5_changes_71 : decode cX5_changes 71 = .ok (.iaload, 1) := by decide +kernel
theorem dX5_changes_72 : decode cX5_changes 72 = .ok (.iaload, 1) := by decide +kernel
theorem dX5_changes_73 : decode cX5_changes 73 = .ok (.bipush 20, 2) := by decide +kernel
theorem dX5_changes_75 : decode cX5_changes 75 = .ok (.idiv, 1) := by decide +kernel
theorem dX5_changes_76 : decode cX5_changes 76 = .ok (.aload_n 0, 1) := by decide +kernel
theorem dX5_changes_77 : decode cX5_changes 77 = .ok (.getfield 49, 3) := by decide +kernel
theorem dX5_changes_80 : decode cX5_changes 80 = .ok (.aload_n 0, 1) := by decide +kernel
theorem dX5_changes_81 : decode cX5_changes 81 = .ok (.getfield 46, 3) := by decide +kernel
theorem dX5_changes_84 : decode cX5_changes 84 = .ok (.iconst 0, 1) := by decide +kernel
theorem dX5_changes_85 : decode cX5_changes 85 = .ok (.iaload, 1) := by decide +kernel
theorem dX5_changes_86 : decode cX5_changes 86 = .ok (.iaload, 1) := by decide +kernel
theorem dX5_changes_87 : decode cX5_changes 87 = .ok (.bipush 20, 2) := by decide +kernel
theorem dX5_changes_89 : decode cX5_changes 89 = .ok (.irem, 1) := by decide +kernel
theorem dX5_changes_90 : decode cX5_changes 90 = .ok (.iload_n 2, 1) := by decide +kernel
theorem dX5_changes_91 : decode cX5_changes 91 = .ok (.iconst 0, 1) := by decide +kernel
theorem dX5_changes_92 : decode cX5_changes 92 = .ok (.invokevirtual 118, 3) := by decide +kernel
theorem dX5_changes_95 : decode cX5_changes 95 = .ok (.iconst 0, 1) := by decide +kernel
theorem dX5_changes_96 : decode cX5_changes 96 = .ok (.istore 6, 2) := by decide +kernel
theorem dX5_changes_98 : decode cX5_changes 98 = .ok (.iload 6, 2) := by decide +kernel
theorem dX5_changes_100 : decode cX5_changes 100 = .ok (.iload_n 1, 1) := by decide +kernel
theorem dX5_changes_101 : decode cX5_changes 101 = .ok (.if_icmp .ge 73, 3) := by decide +kernel
theorem dX5_changes_104 : decode cX5_changes 104 = .ok (.iload 6, 2) := by decide +kernel
theorem dX5_changes_106 : decode cX5_changes 106 = .ok (.iload_n 1, 1) := by decide +kernel
theorem dX5_changes_107 : decode cX5_changes 107 = .ok (.iconst 1, 1) := by decide +kernel
theorem dX5_changes_108 : decode cX5_changes 108 = .ok (.isub, 1) := by decide +kernel
theorem dX5_changes_109 : decode cX5_changes 109 = .ok (.if_icmp .ge 20, 3) := by decide +kernel
theorem dX5_changes_112 : decode cX5_changes 112 = .ok (.aload_n 0, 1) := by decide +kernel
theorem dX5_changes_113 : decode cX5_changes 113 = .ok (.getfield 49, 3) := by decide +kernel
theorem dX5_changes_116 : decode cX5_changes 116 = .ok (.aload_n 0, 1) := by decide +kernel
theorem dX5_changes_117 : decode cX5_changes 117 = .ok (.getfield 46, 3) := by decide +kernel
theorem dX5_changes_120 : decode cX5_changes 120 = .ok (.iload 6, 2) := by decide +kernel
theorem dX5_changes_122 : decode cX5_changes 122 = .ok (.iconst 1, 1) := by decide +kernel
theorem dX5_changes_123 : decode cX5_changes 123 = .ok (.iadd, 1) := by decide +kernel
theorem dX5_changes_124 : decode cX5_changes 124 = .ok (.iaload, 1) := by decide +kernel
theorem dX5_changes_125 : decode cX5_changes 125 = .ok (.iaload, 1) := by decide +kernel
theorem dX5_changes_126 : decode cX5_changes 126 = .ok (.goto 5, 3) := by decide +kernel
theorem dX5_changes_129 : decode cX5_changes 129 = .ok (.iload 5, 2) := by decide +kernel
theorem dX5_changes_131 : decode cX5_changes 131 = .ok (.istore 7, 2) := by decide +kernel
theorem dX5_changes_133 : decode cX5_changes 133 = .ok (.aload_n 0, 1) := by decide +kernel
theorem dX5_changes_134 : decode cX5_changes 134 = .ok (.iload 7, 2) := by decide +kernel
theorem dX5_changes_136 : decode cX5_changes 136 = .ok (.bipush 20, 2) := by decide +kernel
theorem dX5_changes_138 : decode cX5_changes 138 = .ok (.idiv, 1) := by decide +kernel
theorem dX5_changes_139 : decode cX5_changes 139 = .ok (.iload 7, 2) := by decide +kernel
theorem dX5_changes_141 : decode cX5_changes 141 = .ok (.bipush 20, 2) := by decide +kernel
theorem dX5_changes_143 : decode cX5_changes 143 = .ok (.irem, 1) := by decide +kernel
theorem dX5_changes_144 : decode cX5_changes 144 = .ok (.iload_n 2, 1) := by decide +kernel
theorem dX5_changes_145 : decode cX5_changes 145 = .ok (.aload_n 0, 1) := by decide +kernel
theorem dX5_changes_146 : decode cX5_changes 146 = .ok (.getfield 46, 3) := by decide +kernel
theorem dX5_changes_149 : decode cX5_changes 149 = .ok (.iload 6, 2) := by decide +kernel
theorem dX5_changes_151 : decode cX5_changes 151 = .ok (.iaload, 1) := by decide +kernel
theorem dX5_changes_152 : decode cX5_changes 152 = .ok (.invokevirtual 118, 3) := by decide +kernel
theorem dX5_changes_155 : decode cX5_changes 155 = .ok (.aload_n 0, 1) := by decide +kernel
theorem dX5_changes_156 : decode cX5_changes 156 = .ok (.getfield 34, 3) := by decide +kernel
theorem dX5_changes_159 : decode cX5_changes 159 = .ok (.aload_n 0, 1) := by decide +kernel
theorem dX5_changes_160 : decode cX5_changes 160 = .ok (.getfield 46, 3) := by decide +kernel
theorem dX5_changes_163 : decode cX5_changes 163 = .ok (.iload 6, 2) := by decide +kernel
theorem dX5_changes_165 : decode cX5_changes 165 = .ok (.iaload, 1) := by decide +kernel
theorem dX5_changes_166 : decode cX5_changes 166 = .ok (.iconst (-1), 1) := by decide +kernel
theorem dX5_changes_167 : decode cX5_changes 167 = .ok (.iastore, 1) := by decide +kernel
theorem dX5_changes_168 : decode cX5_changes 168 = .ok (.iinc 6 1, 3) := by decide +kernel
theorem dX5_changes_171 : decode cX5_changes 171 = .ok (.goto (-73), 3) := by decide +kernel
theorem dX5_changes_174 : decode cX5_changes 174 = .ok (.return_, 1) := by decide +kernel
end
section
theorem dL_addRow_0 : decode cL_addRow 0 = .ok (.aload 4, 2) := by decide +kernel
theorem dL_addRow_2 : decode cL_addRow 2 = .ok (.iconst 0, 1) := by decide +kernel
theorem dL_addRow_3 : decode cL_addRow 3 = .ok (.aload_n 0, 1) := by decide +kernel
theorem dL_addRow_4 : decode cL_addRow 4 = .ok (.iload_n 1, 1) := by decide +kernel
theorem dL_addRow_5 : decode cL_addRow 5 = .ok (.iload_n 2, 1) := by decide +kernel
theorem dL_addRow_6 : decode cL_addRow 6 = .ok (.iload_n 3, 1) := by decide +kernel
theorem dL_addRow_7 : decode cL_addRow 7 = .ok (.invokevirtual 7, 3) := by decide +kernel
theorem dL_addRow_10 : decode cL_addRow 10 = .ok (.i2l, 1) := by decide +kernel
theorem dL_addRow_11 : decode cL_addRow 11 = .ok (.lastore, 1) := by decide +kernel
theorem dL_addRow_12 : decode cL_addRow 12 = .ok (.goto 11, 3) := by decide +kernel
theorem dL_addRow_15 : decode cL_addRow 15 = .ok (.astore 5, 2) := by decide +kernel
theorem dL_addRow_17 : decode cL_addRow 17 = .ok (.iconst 1, 1) := by decide +kernel
theorem dL_addRow_18 : decode cL_addRow 18 = .ok (.ireturn, 1) := by decide +kernel
theorem dL_addRow_19 : decode cL_addRow 19 = .ok (.astore 5, 2) := by decide +kernel
theorem dL_addRow_21 : decode cL_addRow 21 = .ok (.iconst 2, 1) := by decide +kernel
theorem dL_addRow_22 : decode cL_addRow 22 = .ok (.ireturn, 1) := by decide +kernel
theorem dL_addRow_23 : decode cL_addRow 23 = .ok (.iconst 0, 1) := by decide +kernel
theorem dL_addRow_24 : decode cL_addRow 24 = .ok (.ireturn, 1) := by decide +kernel
theorem dL_toggleBlocked_0 : decode cL_toggleBlocked 0 = .ok (.aload_n 3, 1) := by decide +kernel
theorem dL_toggleBlocked_1 : decode cL_toggleBlocked 1 = .ok (.iconst 0, 1) := by decide +kernel
theorem dL_toggleBlocked_2 : decode cL_toggleBlocked 2 = .ok (.aload_n 0, 1) := by decide +kernel
theorem dL_toggleBlocked_3 : decode cL_toggleBlocked 3 = .ok (.iload_n 1, 1) := by decide +kernel
theorem dL_toggleBlocked_4 : decode cL_toggleBlocked 4 = .ok (.iload_n 2, 1) := by decide +kernel
theorem dL_toggleBlocked_5 : decode cL_toggleBlocked 5 = .ok (.invokevirtual 17, 3) := by decide +kernel
theorem dL_toggleBlocked_8 : decode cL_toggleBlocked 8 = .ok (.ifCond .eq 7, 3) := by decide +kernel
theorem dL_toggleBlocked_11 : decode cL_toggleBlocked 11 = .ok (.lconst 1, 1) := by decide +kernel
theorem dL_toggleBlocked_12 : decode cL_toggleBlocked 12 = .ok (.goto 4, 3) := by decide +kernel
theorem dL_toggleBlocked_15 : decode cL_toggleBlocked 15 = .ok (.lconst 0, 1) := by decide +kernel
theorem dL_toggleBlocked_16 : decode cL_toggleBlocked 16 = .ok (.lastore, 1) := by decide +kernel
theorem dL_toggleBlocked_17 : decode cL_toggleBlocked 17 = .ok (.goto 11, 3) := by decide +kernel
theorem dL_toggleBlocked_20 : decode cL_toggleBlocked 20 = .ok (.astore 4, 2) := by decide +kernel
theorem dL_toggleBlocked_22 : decode cL_toggleBlocked 22 = .ok (.iconst 1, 1) := by decide +kernel
theorem dL_toggleBlocked_23 : decode cL_toggleBlocked 23 = .ok (.ireturn, 1) := by decide +kernel
theorem dL_toggleBlocked_24 : decode cL_toggleBlocked 24 = .ok (.astore 4, 2) := by decide +kernel
theorem dL_toggleBlocked_26 : decode cL_toggleBlocked 26 = .ok (.iconst 2, 1) := by decide +kernel
theorem dL_toggleBlocked_27 : decode cL_toggleBlocked 27 = .ok (.ireturn, 1) := by decide +kernel
theorem dL_toggleBlocked_28 : decode cL_toggleBlocked 28 = .ok (.iconst 0, 1) := by decide +kernel
theorem dL_toggleBlocked_29 : decode cL_toggleBlocked 29 = .ok (.ireturn, 1) := by decide +kernel
theorem dL_state_0 : decode cL_state 0 = .ok (.aload_n 3, 1) := by decide +kernel
theorem dL_state_1 : decode cL_state 1 = .ok (.iconst 0, 1) := by decide +kernel
theorem dL_state_2 : decode cL_state 2 = .ok (.aload_n 0, 1) := by decide +kernel
theorem dL_state_3 : decode cL_state 3 = .ok (.iload_n 1, 1) := by decide +kernel
theorem dL_state_4 : decode cL_state 4 = .ok (.iload_n 2, 1) := by decide +kernel
theorem dL_state_5 : decode cL_state 5 = .ok (.invokevirtual 23, 3) := by decide +kernel
theorem dL_state_8 : decode cL_state 8 = .ok (.i2l, 1) := by decide +kernel
theorem dL_state_9 : decode cL_state 9 = .ok (.lastore, 1) := by decide +kernel
theorem dL_state_10 : decode cL_state 10 = .ok (.goto 7, 3) := by decide +kernel
theorem dL_state_13 : decode cL_state 13 = .ok (.astore 4, 2) := by decide +kernel
theorem dL_state_15 : decode cL_state 15 = .ok (.iconst 1, 1) := by decide +kernel
theorem dL_state_16 : decode cL_state 16 = .ok (.ireturn, 1) := by decide +kernel
theorem dL_state_17 : decode cL_state 17 = .ok (.iconst 0, 1) := by decide +kernel
theorem dL_state_18 : decode cL_state 18 = .ok (.ireturn, 1) := by decide +kernel
theorem dL_ticketAt_0 : decode cL_ticketAt 0 = .ok (.aload_n 3, 1) := by decide +kernel
theorem dL_ticketAt_1 : decode cL_ticketAt 1 = .ok (.iconst 0, 1) := by decide +kernel
theorem dL_ticketAt_2 : decode cL_ticketAt 2 = .ok (.aload_n 0, 1) := by decide +kernel
theorem dL_ticketAt_3 : decode cL_ticketAt 3 = .ok (.iload_n 1, 1) := by decide +kernel
theorem dL_ticketAt_4 : decode cL_ticketAt 4 = .ok (.iload_n 2, 1) := by decide +kernel
theorem dL_ticketAt_5 : decode cL_ticketAt 5 = .ok (.invokevirtual 27, 3) := by decide +kernel
theorem dL_ticketAt_8 : decode cL_ticketAt 8 = .ok (.i2l, 1) := by decide +kernel
theorem dL_ticketAt_9 : decode cL_ticketAt 9 = .ok (.lastore, 1) := by decide +kernel
theorem dL_ticketAt_10 : decode cL_ticketAt 10 = .ok (.goto 7, 3) := by decide +kernel
theorem dL_ticketAt_13 : decode cL_ticketAt 13 = .ok (.astore 4, 2) := by decide +kernel
theorem dL_ticketAt_15 : decode cL_ticketAt 15 = .ok (.iconst 1, 1) := by decide +kernel
theorem dL_ticketAt_16 : decode cL_ticketAt 16 = .ok (.ireturn, 1) := by decide +kernel
theorem dL_ticketAt_17 : decode cL_ticketAt 17 = .ok (.iconst 0, 1) := by decide +kernel
theorem dL_ticketAt_18 : decode cL_ticketAt 18 = .ok (.ireturn, 1) := by decide +kernel
theorem dL_value_0 : decode cL_value 0 = .ok (.aload_n 3, 1) := by decide +kernel
theorem dL_value_1 : decode cL_value 1 = .ok (.iconst 0, 1) := by decide +kernel
theorem dL_value_2 : decode cL_value 2 = .ok (.aload_n 0, 1) := by decide +kernel
theorem dL_value_3 : decode cL_value 3 = .ok (.iload_n 1, 1) := by decide +kernel
theorem dL_value_4 : decode cL_value 4 = .ok (.iload_n 2, 1) := by decide +kernel
theorem dL_value_5 : decode cL_value 5 = .ok (.invokevirtual 30, 3) := by decide +kernel
theorem dL_value_8 : decode cL_value 8 = .ok (.i2l, 1) := by decide +kernel
theorem dL_value_9 : decode cL_value 9 = .ok (.lastore, 1) := by decide +kernel
theorem dL_value_10 : decode cL_value 10 = .ok (.goto 7, 3) := by decide +kernel
theorem dL_value_13 : decode cL_value 13 = .ok (.astore 4, 2) := by decide +kernel
theorem dL_value_15 : decode cL_value 15 = .ok (.iconst 1, 1) := by decide +kernel
theorem dL_value_16 : decode cL_value 16 = .ok (.ireturn, 1) := by decide +kernel
theorem dL_value_17 : decode cL_value 17 = .ok (.iconst 0, 1) := by decide +kernel
theorem dL_value_18 : decode cL_value 18 = .ok (.ireturn, 1) := by decide +kernel
theorem dL_freeSeats_0 : decode cL_freeSeats 0 = .ok (.aload_n 2, 1) := by decide +kernel
theorem dL_freeSeats_1 : decode cL_freeSeats 1 = .ok (.iconst 0, 1) := by decide +kernel
theorem dL_freeSeats_2 : decode cL_freeSeats 2 = .ok (.aload_n 0, 1) := by decide +kernel
theorem dL_freeSeats_3 : decode cL_freeSeats 3 = .ok (.iload_n 1, 1) := by decide +kernel
theorem dL_freeSeats_4 : decode cL_freeSeats 4 = .ok (.invokevirtual 33, 3) := by decide +kernel
theorem dL_freeSeats_7 : decode cL_freeSeats 7 = .ok (.i2l, 1) := by decide +kernel
theorem dL_freeSeats_8 : decode cL_freeSeats 8 = .ok (.lastore, 1) := by decide +kernel
theorem dL_freeSeats_9 : decode cL_freeSeats 9 = .ok (.goto 6, 3) := by decide +kernel
theorem dL_freeSeats_12 : decode cL_freeSeats 12 = .ok (.astore_n 3, 1) := by decide +kernel
theorem dL_freeSeats_13 : decode cL_freeSeats 13 = .ok (.iconst 1, 1) := by decide +kernel
theorem dL_freeSeats_14 : decode cL_freeSeats 14 = .ok (.ireturn, 1) := by decide +kernel
theorem dL_freeSeats_15 : decode cL_freeSeats 15 = .ok (.iconst 0, 1) := by decide +kernel
theorem dL_freeSeats_16 : decode cL_freeSeats 16 = .ok (.ireturn, 1) := by decide +kernel
theorem dL_bestBlock_0 : decode cL_bestBlock 0 = .ok (.aload_n 2, 1) := by decide +kernel
theorem dL_bestBlock_1 : decode cL_bestBlock 1 = .ok (.iconst 0, 1) := by decide +kernel
theorem dL_bestBlock_2 : decode cL_bestBlock 2 = .ok (.aload_n 0, 1) := by decide +kernel
theorem dL_bestBlock_3 : decode cL_bestBlock 3 = .ok (.iload_n 1, 1) := by decide +kernel
theorem dL_bestBlock_4 : decode cL_bestBlock 4 = .ok (.invokevirtual 37, 3) := by decide +kernel
theorem dL_bestBlock_7 : decode cL_bestBlock 7 = .ok (.i2l, 1) := by decide +kernel
theorem dL_bestBlock_8 : decode cL_bestBlock 8 = .ok (.lastore, 1) := by decide +kernel
theorem dL_bestBlock_9 : decode cL_bestBlock 9 = .ok (.goto 9, 3) := by decide +kernel
theorem dL_bestBlock_12 : decode cL_bestBlock 12 = .ok (.astore_n 3, 1) := by decide +kernel
theorem dL_bestBlock_13 : decode cL_bestBlock 13 = .ok (.iconst 1, 1) := by decide +kernel
theorem dL_bestBlock_14 : decode cL_bestBlock 14 = .ok (.ireturn, 1) := by decide +kernel
theorem dL_bestBlock_15 : decode cL_bestBlock 15 = .ok (.astore_n 3, 1) := by decide +kernel
theorem dL_bestBlock_16 : decode cL_bestBlock 16 = .ok (.iconst 2, 1) := by decide +kernel
theorem dL_bestBlock_17 : decode cL_bestBlock 17 = .ok (.ireturn, 1) := by decide +kernel
theorem dL_bestBlock_18 : decode cL_bestBlock 18 = .ok (.iconst 0, 1) := by decide +kernel
theorem dL_bestBlock_19 : decode cL_bestBlock 19 = .ok (.ireturn, 1) := by decide +kernel
theorem dL_leavesOrphan_0 : decode cL_leavesOrphan 0 = .ok (.aload_n 2, 1) := by decide +kernel
theorem dL_leavesOrphan_1 : decode cL_leavesOrphan 1 = .ok (.iconst 0, 1) := by decide +kernel
theorem dL_leavesOrphan_2 : decode cL_leavesOrphan 2 = .ok (.aload_n 0, 1) := by decide +kernel
theorem dL_leavesOrphan_3 : decode cL_leavesOrphan 3 = .ok (.iload_n 1, 1) := by decide +kernel
theorem dL_leavesOrphan_4 : decode cL_leavesOrphan 4 = .ok (.invokevirtual 40, 3) := by decide +kernel
theorem dL_leavesOrphan_7 : decode cL_leavesOrphan 7 = .ok (.ifCond .eq 7, 3) := by decide +kernel
theorem dL_leavesOrphan_10 : decode cL_leavesOrphan 10 = .ok (.lconst 1, 1) := by decide +kernel
theorem dL_leavesOrphan_11 : decode cL_leavesOrphan 11 = .ok (.goto 4, 3) := by decide +kernel
theorem dL_leavesOrphan_14 : decode cL_leavesOrphan 14 = .ok (.lconst 0, 1) := by decide +kernel
theorem dL_leavesOrphan_15 : decode cL_leavesOrphan 15 = .ok (.lastore, 1) := by decide +kernel
theorem dL_leavesOrphan_16 : decode cL_leavesOrphan 16 = .ok (.goto 9, 3) := by decide +kernel
theorem dL_leavesOrphan_19 : decode cL_leavesOrphan 19 = .ok (.astore_n 3, 1) := by decide +kernel
theorem dL_leavesOrphan_20 : decode cL_leavesOrphan 20 = .ok (.iconst 1, 1) := by decide +kernel
theorem dL_leavesOrphan_21 : decode cL_leavesOrphan 21 = .ok (.ireturn, 1) := by decide +kernel
theorem dL_leavesOrphan_22 : decode cL_leavesOrphan 22 = .ok (.astore_n 3, 1) := by decide +kernel
theorem dL_leavesOrphan_23 : decode cL_leavesOrphan 23 = .ok (.iconst 2, 1) := by decide +kernel
theorem dL_leavesOrphan_24 : decode cL_leavesOrphan 24 = .ok (.ireturn, 1) := by decide +kernel
theorem dL_leavesOrphan_25 : decode cL_leavesOrphan 25 = .ok (.iconst 0, 1) := by decide +kernel
theorem dL_leavesOrphan_26 : decode cL_leavesOrphan 26 = .ok (.ireturn, 1) := by decide +kernel
theorem dL_hold_0 : decode cL_hold 0 = .ok (.aload_n 3, 1) := by decide +kernel
theorem dL_hold_1 : decode cL_hold 1 = .ok (.iconst 0, 1) := by decide +kernel
theorem dL_hold_2 : decode cL_hold 2 = .ok (.aload_n 0, 1) := by decide +kernel
theorem dL_hold_3 : decode cL_hold 3 = .ok (.iload_n 1, 1) := by decide +kernel
theorem dL_hold_4 : decode cL_hold 4 = .ok (.iload_n 2, 1) := by decide +kernel
theorem dL_hold_5 : decode cL_hold 5 = .ok (.invokevirtual 44, 3) := by decide +kernel
theorem dL_hold_8 : decode cL_hold 8 = .ok (.i2l, 1) := by decide +kernel
theorem dL_hold_9 : decode cL_hold 9 = .ok (.lastore, 1) := by decide +kernel
theorem dL_hold_10 : decode cL_hold 10 = .ok (.goto 11, 3) := by decide +kernel
theorem dL_hold_13 : decode cL_hold 13 = .ok (.astore 4, 2) := by decide +kernel
theorem dL_hold_15 : decode cL_hold 15 = .ok (.iconst 1, 1) := by decide +kernel
theorem dL_hold_16 : decode cL_hold 16 = .ok (.ireturn, 1) := by decide +kernel
theorem dL_hold_17 : decode cL_hold 17 = .ok (.astore 4, 2) := by decide +kernel
theorem dL_hold_19 : decode cL_hold 19 = .ok (.iconst 2, 1) := by decide +kernel
theorem dL_hold_20 : decode cL_hold 20 = .ok (.ireturn, 1) := by decide +kernel
theorem dL_hold_21 : decode cL_hold 21 = .ok (.iconst 0, 1) := by decide +kernel
theorem dL_hold_22 : decode cL_hold 22 = .ok (.ireturn, 1) := by decide +kernel
theorem dL_holdAt_0 : decode cL_holdAt 0 = .ok (.aload 5, 2) := by decide +kernel
theorem dL_holdAt_2 : decode cL_holdAt 2 = .ok (.iconst 0, 1) := by decide +kernel
theorem dL_holdAt_3 : decode cL_holdAt 3 = .ok (.aload_n 0, 1) := by decide +kernel
theorem dL_holdAt_4 : decode cL_holdAt 4 = .ok (.iload_n 1, 1) := by decide +kernel
theorem dL_holdAt_5 : decode cL_holdAt 5 = .ok (.iload_n 2, 1) := by decide +kernel
theorem dL_holdAt_6 : decode cL_holdAt 6 = .ok (.iload_n 3, 1) := by decide +kernel
theorem dL_holdAt_7 : decode cL_holdAt 7 = .ok (.iload 4, 2) := by decide +kernel
theorem dL_holdAt_9 : decode cL_holdAt 9 = .ok (.invokevirtual 47, 3) := by decide +kernel
theorem dL_holdAt_12 : decode cL_holdAt 12 = .ok (.i2l, 1) := by decide +kernel
theorem dL_holdAt_13 : decode cL_holdAt 13 = .ok (.lastore, 1) := by decide +kernel
theorem dL_holdAt_14 : decode cL_holdAt 14 = .ok (.goto 15, 3) := by decide +kernel
theorem dL_holdAt_17 : decode cL_holdAt 17 = .ok (.astore 6, 2) := by decide +kernel
theorem dL_holdAt_19 : decode cL_holdAt 19 = .ok (.iconst 1, 1) := by decide +kernel
theorem dL_holdAt_20 : decode cL_holdAt 20 = .ok (.ireturn, 1) := by decide +kernel
theorem dL_holdAt_21 : decode cL_holdAt 21 = .ok (.astore 6, 2) := by decide +kernel
theorem dL_holdAt_23 : decode cL_holdAt 23 = .ok (.iconst 2, 1) := by decide +kernel
theorem dL_holdAt_24 : decode cL_holdAt 24 = .ok (.ireturn, 1) := by decide +kernel
theorem dL_holdAt_25 : decode cL_holdAt 25 = .ok (.astore 6, 2) := by decide +kernel
theorem dL_holdAt_27 : decode cL_holdAt 27 = .ok (.iconst 3, 1) := by decide +kernel
theorem dL_holdAt_28 : decode cL_holdAt 28 = .ok (.ireturn, 1) := by decide +kernel
theorem dL_holdAt_29 : decode cL_holdAt 29 = .ok (.iconst 0, 1) := by decide +kernel
theorem dL_holdAt_30 : decode cL_holdAt 30 = .ok (.ireturn, 1) := by decide +kernel
theorem dL_rowsForGroup_0 : decode cL_rowsForGroup 0 = .ok (.aload_n 2, 1) := by decide +kernel
theorem dL_rowsForGroup_1 : decode cL_rowsForGroup 1 = .ok (.iconst 0, 1) := by decide +kernel
theorem dL_rowsForGroup_2 : decode cL_rowsForGroup 2 = .ok (.aload_n 0, 1) := by decide +kernel
theorem dL_rowsForGroup_3 : decode cL_rowsForGroup 3 = .ok (.iload_n 1, 1) := by decide +kernel
theorem dL_rowsForGroup_4 : decode cL_rowsForGroup 4 = .ok (.invokevirtual 51, 3) := by decide +kernel
theorem dL_rowsForGroup_7 : decode cL_rowsForGroup 7 = .ok (.i2l, 1) := by decide +kernel
theorem dL_rowsForGroup_8 : decode cL_rowsForGroup 8 = .ok (.lastore, 1) := by decide +kernel
theorem dL_rowsForGroup_9 : decode cL_rowsForGroup 9 = .ok (.goto 9, 3) := by decide +kernel
theorem dL_rowsForGroup_12 : decode cL_rowsForGroup 12 = .ok (.astore_n 3, 1) := by decide +kernel
theorem dL_rowsForGroup_13 : decode cL_rowsForGroup 13 = .ok (.iconst 1, 1) := by decide +kernel
theorem dL_rowsForGroup_14 : decode cL_rowsForGroup 14 = .ok (.ireturn, 1) := by decide +kernel
theorem dL_rowsForGroup_15 : decode cL_rowsForGroup 15 = .ok (.astore_n 3, 1) := by decide +kernel
theorem dL_rowsForGroup_16 : decode cL_rowsForGroup 16 = .ok (.iconst 2, 1) := by decide +kernel
theorem dL_rowsForGroup_17 : decode cL_rowsForGroup 17 = .ok (.ireturn, 1) := by decide +kernel
theorem dL_rowsForGroup_18 : decode cL_rowsForGroup 18 = .ok (.iconst 0, 1) := by decide +kernel
theorem dL_rowsForGroup_19 : decode cL_rowsForGroup 19 = .ok (.ireturn, 1) := by decide +kernel
theorem dL_seatsForGroup_0 : decode cL_seatsForGroup 0 = .ok (.aload_n 3, 1) := by decide +kernel
theorem dL_seatsForGroup_1 : decode cL_seatsForGroup 1 = .ok (.iconst 0, 1) := by decide +kernel
theorem dL_seatsForGroup_2 : decode cL_seatsForGroup 2 = .ok (.aload_n 0, 1) := by decide +kernel
theorem dL_seatsForGroup_3 : decode cL_seatsForGroup 3 = .ok (.iload_n 1, 1) := by decide +kernel
theorem dL_seatsForGroup_4 : decode cL_seatsForGroup 4 = .ok (.iload_n 2, 1) := by decide +kernel
theorem dL_seatsForGroup_5 : decode cL_seatsForGroup 5 = .ok (.invokevirtual 54, 3) := by decide +kernel
theorem dL_seatsForGroup_8 : decode cL_seatsForGroup 8 = .ok (.i2l, 1) := by decide +kernel
theorem dL_seatsForGroup_9 : decode cL_seatsForGroup 9 = .ok (.lastore, 1) := by decide +kernel
theorem dL_seatsForGroup_10 : decode cL_seatsForGroup 10 = .ok (.goto 15, 3) := by decide +kernel
theorem dL_seatsForGroup_13 : decode cL_seatsForGroup 13 = .ok (.astore 4, 2) := by decide +kernel
theorem dL_seatsForGroup_15 : decode cL_seatsForGroup 15 = .ok (.iconst 1, 1) := by decide +kernel
theorem dL_seatsForGroup_16 : decode cL_seatsForGroup 16 = .ok (.ireturn, 1) := by decide +kernel
theorem dL_seatsForGroup_17 : decode cL_seatsForGroup 17 = .ok (.astore 4, 2) := by decide +kernel
theorem dL_seatsForGroup_19 : decode cL_seatsForGroup 19 = .ok (.iconst 2, 1) := by decide +kernel
theorem dL_seatsForGroup_20 : decode cL_seatsForGroup 20 = .ok (.ireturn, 1) := by decide +kernel
theorem dL_seatsForGroup_21 : decode cL_seatsForGroup 21 = .ok (.astore 4, 2) := by decide +kernel
theorem dL_seatsForGroup_23 : decode cL_seatsForGroup 23 = .ok (.iconst 3, 1) := by decide +kernel
theorem dL_seatsForGroup_24 : decode cL_seatsForGroup 24 = .ok (.ireturn, 1) := by decide +kernel
theorem dL_seatsForGroup_25 : decode cL_seatsForGroup 25 = .ok (.iconst 0, 1) := by decide +kernel
theorem dL_seatsForGroup_26 : decode cL_seatsForGroup 26 = .ok (.ireturn, 1) := by decide +kernel
theorem dL_holdGroup_0 : decode cL_holdGroup 0 = .ok (.aload_n 3, 1) := by decide +kernel
theorem dL_holdGroup_1 : decode cL_holdGroup 1 = .ok (.iconst 0, 1) := by decide +kernel
theorem dL_holdGroup_2 : decode cL_holdGroup 2 = .ok (.aload_n 0, 1) := by decide +kernel
theorem dL_holdGroup_3 : decode cL_holdGroup 3 = .ok (.iload_n 1, 1) := by decide +kernel
theorem dL_holdGroup_4 : decode cL_holdGroup 4 = .ok (.iload_n 2, 1) := by decide +kernel
theorem dL_holdGroup_5 : decode cL_holdGroup 5 = .ok (.invokevirtual 57, 3) := by decide +kernel
theorem dL_holdGroup_8 : decode cL_holdGroup 8 = .ok (.i2l, 1) := by decide +kernel
theorem dL_holdGroup_9 : decode cL_holdGroup 9 = .ok (.lastore, 1) := by decide +kernel
theorem dL_holdGroup_10 : decode cL_holdGroup 10 = .ok (.goto 11, 3) := by decide +kernel
theorem dL_holdGroup_13 : decode cL_holdGroup 13 = .ok (.astore 4, 2) := by decide +kernel
theorem dL_holdGroup_15 : decode cL_holdGroup 15 = .ok (.iconst 1, 1) := by decide +kernel
theorem dL_holdGroup_16 : decode cL_holdGroup 16 = .ok (.ireturn, 1) := by decide +kernel
theorem dL_holdGroup_17 : decode cL_holdGroup 17 = .ok (.astore 4, 2) := by decide +kernel
theorem dL_holdGroup_19 : decode cL_holdGroup 19 = .ok (.iconst 2, 1) := by decide +kernel
theorem dL_holdGroup_20 : decode cL_holdGroup 20 = .ok (.ireturn, 1) := by decide +kernel
theorem dL_holdGroup_21 : decode cL_holdGroup 21 = .ok (.iconst 0, 1) := by decide +kernel
theorem dL_holdGroup_22 : decode cL_holdGroup 22 = .ok (.ireturn, 1) := by decide +kernel
theorem dL_ticketState_0 : decode cL_ticketState 0 = .ok (.aload_n 2, 1) := by decide +kernel
theorem dL_ticketState_1 : decode cL_ticketState 1 = .ok (.iconst 0, 1) := by decide +kernel
theorem dL_ticketState_2 : decode cL_ticketState 2 = .ok (.aload_n 0, 1) := by decide +kernel
theorem dL_ticketState_3 : decode cL_ticketState 3 = .ok (.iload_n 1, 1) := by decide +kernel
theorem dL_ticketState_4 : decode cL_ticketState 4 = .ok (.invokevirtual 60, 3) := by decide +kernel
theorem dL_ticketState_7 : decode cL_ticketState 7 = .ok (.i2l, 1) := by decide +kernel
theorem dL_ticketState_8 : decode cL_ticketState 8 = .ok (.lastore, 1) := by decide +kernel
theorem dL_ticketState_9 : decode cL_ticketState 9 = .ok (.goto 6, 3) := by decide +kernel
theorem dL_ticketState_12 : decode cL_ticketState 12 = .ok (.astore_n 3, 1) := by decide +kernel
theorem dL_ticketState_13 : decode cL_ticketState 13 = .ok (.iconst 1, 1) := by decide +kernel
theorem dL_ticketState_14 : decode cL_ticketState 14 = .ok (.ireturn, 1) := by decide +kernel
theorem dL_ticketState_15 : decode cL_ticketState 15 = .ok (.iconst 0, 1) := by decide +kernel
theorem dL_ticketState_16 : decode cL_ticketState 16 = .ok (.ireturn, 1) := by decide +kernel
theorem dL_seatsOf_0 : decode cL_seatsOf 0 = .ok (.aload_n 2, 1) := by decide +kernel
theorem dL_seatsOf_1 : decode cL_seatsOf 1 = .ok (.iconst 0, 1) := by decide +kernel
theorem dL_seatsOf_2 : decode cL_seatsOf 2 = .ok (.aload_n 0, 1) := by decide +kernel
theorem dL_seatsOf_3 : decode cL_seatsOf 3 = .ok (.iload_n 1, 1) := by decide +kernel
theorem dL_seatsOf_4 : decode cL_seatsOf 4 = .ok (.invokevirtual 63, 3) := by decide +kernel
theorem dL_seatsOf_7 : decode cL_seatsOf 7 = .ok (.i2l, 1) := by decide +kernel
theorem dL_seatsOf_8 : decode cL_seatsOf 8 = .ok (.lastore, 1) := by decide +kernel
theorem dL_seatsOf_9 : decode cL_seatsOf 9 = .ok (.goto 6, 3) := by decide +kernel
theorem dL_seatsOf_12 : decode cL_seatsOf 12 = .ok (.astore_n 3, 1) := by decide +kernel
theorem dL_seatsOf_13 : decode cL_seatsOf 13 = .ok (.iconst 1, 1) := by decide +kernel
theorem dL_seatsOf_14 : decode cL_seatsOf 14 = .ok (.ireturn, 1) := by decide +kernel
theorem dL_seatsOf_15 : decode cL_seatsOf 15 = .ok (.iconst 0, 1) := by decide +kernel
theorem dL_seatsOf_16 : decode cL_seatsOf 16 = .ok (.ireturn, 1) := by decide +kernel
theorem dL_priceOf_0 : decode cL_priceOf 0 = .ok (.aload_n 2, 1) := by decide +kernel
theorem dL_priceOf_1 : decode cL_priceOf 1 = .ok (.iconst 0, 1) := by decide +kernel
theorem dL_priceOf_2 : decode cL_priceOf 2 = .ok (.aload_n 0, 1) := by decide +kernel
theorem dL_priceOf_3 : decode cL_priceOf 3 = .ok (.iload_n 1, 1) := by decide +kernel
theorem dL_priceOf_4 : decode cL_priceOf 4 = .ok (.invokevirtual 66, 3) := by decide +kernel
theorem dL_priceOf_7 : decode cL_priceOf 7 = .ok (.i2l, 1) := by decide +kernel
theorem dL_priceOf_8 : decode cL_priceOf 8 = .ok (.lastore, 1) := by decide +kernel
theorem dL_priceOf_9 : decode cL_priceOf 9 = .ok (.goto 6, 3) := by decide +kernel
theorem dL_priceOf_12 : decode cL_priceOf 12 = .ok (.astore_n 3, 1) := by decide +kernel
theorem dL_priceOf_13 : decode cL_priceOf 13 = .ok (.iconst 1, 1) := by decide +kernel
theorem dL_priceOf_14 : decode cL_priceOf 14 = .ok (.ireturn, 1) := by decide +kernel
theorem dL_priceOf_15 : decode cL_priceOf 15 = .ok (.iconst 0, 1) := by decide +kernel
theorem dL_priceOf_16 : decode cL_priceOf 16 = .ok (.ireturn, 1) := by decide +kernel
theorem dL_extend_0 : decode cL_extend 0 = .ok (.aload_n 3, 1) := by decide +kernel
theorem dL_extend_1 : decode cL_extend 1 = .ok (.iconst 0, 1) := by decide +kernel
theorem dL_extend_2 : decode cL_extend 2 = .ok (.aload_n 0, 1) := by decide +kernel
theorem dL_extend_3 : decode cL_extend 3 = .ok (.iload_n 1, 1) := by decide +kernel
theorem dL_extend_4 : decode cL_extend 4 = .ok (.iload_n 2, 1) := by decide +kernel
theorem dL_extend_5 : decode cL_extend 5 = .ok (.invokevirtual 69, 3) := by decide +kernel
theorem dL_extend_8 : decode cL_extend 8 = .ok (.i2l, 1) := by decide +kernel
theorem dL_extend_9 : decode cL_extend 9 = .ok (.lastore, 1) := by decide +kernel
theorem dL_extend_10 : decode cL_extend 10 = .ok (.goto 15, 3) := by decide +kernel
theorem dL_extend_13 : decode cL_extend 13 = .ok (.astore 4, 2) := by decide +kernel
theorem dL_extend_15 : decode cL_extend 15 = .ok (.iconst 1, 1) := by decide +kernel
theorem dL_extend_16 : decode cL_extend 16 = .ok (.ireturn, 1) := by decide +kernel
theorem dL_extend_17 : decode cL_extend 17 = .ok (.astore 4, 2) := by decide +kernel
theorem dL_extend_19 : decode cL_extend 19 = .ok (.iconst 2, 1) := by decide +kernel
theorem dL_extend_20 : decode cL_extend 20 = .ok (.ireturn, 1) := by decide +kernel
theorem dL_extend_21 : decode cL_extend 21 = .ok (.astore 4, 2) := by decide +kernel
theorem dL_extend_23 : decode cL_extend 23 = .ok (.iconst 3, 1) := by decide +kernel
theorem dL_extend_24 : decode cL_extend 24 = .ok (.ireturn, 1) := by decide +kernel
theorem dL_extend_25 : decode cL_extend 25 = .ok (.iconst 0, 1) := by decide +kernel
theorem dL_extend_26 : decode cL_extend 26 = .ok (.ireturn, 1) := by decide +kernel
theorem dL_pay_0 : decode cL_pay 0 = .ok (.aload_n 2, 1) := by decide +kernel
theorem dL_pay_1 : decode cL_pay 1 = .ok (.iconst 0, 1) := by decide +kernel
theorem dL_pay_2 : decode cL_pay 2 = .ok (.aload_n 0, 1) := by decide +kernel
theorem dL_pay_3 : decode cL_pay 3 = .ok (.iload_n 1, 1) := by decide +kernel
theorem dL_pay_4 : decode cL_pay 4 = .ok (.invokevirtual 72, 3) := by decide +kernel
theorem dL_pay_7 : decode cL_pay 7 = .ok (.i2l, 1) := by decide +kernel
theorem dL_pay_8 : decode cL_pay 8 = .ok (.lastore, 1) := by decide +kernel
theorem dL_pay_9 : decode cL_pay 9 = .ok (.goto 9, 3) := by decide +kernel
theorem dL_pay_12 : decode cL_pay 12 = .ok (.astore_n 3, 1) := by decide +kernel
theorem dL_pay_13 : decode cL_pay 13 = .ok (.iconst 1, 1) := by decide +kernel
theorem dL_pay_14 : decode cL_pay 14 = .ok (.ireturn, 1) := by decide +kernel
theorem dL_pay_15 : decode cL_pay 15 = .ok (.astore_n 3, 1) := by decide +kernel
theorem dL_pay_16 : decode cL_pay 16 = .ok (.iconst 2, 1) := by decide +kernel
theorem dL_pay_17 : decode cL_pay 17 = .ok (.ireturn, 1) := by decide +kernel
theorem dL_pay_18 : decode cL_pay 18 = .ok (.iconst 0, 1) := by decide +kernel
theorem dL_pay_19 : decode cL_pay 19 = .ok (.ireturn, 1) := by decide +kernel
theorem dL_cancel_0 : decode cL_cancel 0 = .ok (.aload_n 2, 1) := by decide +kernel
theorem dL_cancel_1 : decode cL_cancel 1 = .ok (.iconst 0, 1) := by decide +kernel
theorem dL_cancel_2 : decode cL_cancel 2 = .ok (.aload_n 0, 1) := by decide +kernel
theorem dL_cancel_3 : decode cL_cancel 3 = .ok (.iload_n 1, 1) := by decide +kernel
theorem dL_cancel_4 : decode cL_cancel 4 = .ok (.invokevirtual 75, 3) := by decide +kernel
theorem dL_cancel_7 : decode cL_cancel 7 = .ok (.i2l, 1) := by decide +kernel
theorem dL_cancel_8 : decode cL_cancel 8 = .ok (.lastore, 1) := by decide +kernel
theorem dL_cancel_9 : decode cL_cancel 9 = .ok (.goto 9, 3) := by decide +kernel
theorem dL_cancel_12 : decode cL_cancel 12 = .ok (.astore_n 3, 1) := by decide +kernel
theorem dL_cancel_13 : decode cL_cancel 13 = .ok (.iconst 1, 1) := by decide +kernel
theorem dL_cancel_14 : decode cL_cancel 14 = .ok (.ireturn, 1) := by decide +kernel
theorem dL_cancel_15 : decode cL_cancel 15 = .ok (.astore_n 3, 1) := by decide +kernel
theorem dL_cancel_16 : decode cL_cancel 16 = .ok (.iconst 2, 1) := by decide +kernel
theorem dL_cancel_17 : decode cL_cancel 17 = .ok (.ireturn, 1) := by decide +kernel
theorem dL_cancel_18 : decode cL_cancel 18 = .ok (.iconst 0, 1) := by decide +kernel
theorem dL_cancel_19 : decode cL_cancel 19 = .ok (.ireturn, 1) := by decide +kernel
theorem dL_pass_0 : decode cL_pass 0 = .ok (.aload_n 2, 1) := by decide +kernel
theorem dL_pass_1 : decode cL_pass 1 = .ok (.iconst 0, 1) := by decide +kernel
theorem dL_pass_2 : decode cL_pass 2 = .ok (.aload_n 0, 1) := by decide +kernel
theorem dL_pass_3 : decode cL_pass 3 = .ok (.iload_n 1, 1) := by decide +kernel
theorem dL_pass_4 : decode cL_pass 4 = .ok (.invokevirtual 78, 3) := by decide +kernel
theorem dL_pass_7 : decode cL_pass 7 = .ok (.i2l, 1) := by decide +kernel
theorem dL_pass_8 : decode cL_pass 8 = .ok (.lastore, 1) := by decide +kernel
theorem dL_pass_9 : decode cL_pass 9 = .ok (.goto 6, 3) := by decide +kernel
theorem dL_pass_12 : decode cL_pass 12 = .ok (.astore_n 3, 1) := by decide +kernel
theorem dL_pass_13 : decode cL_pass 13 = .ok (.iconst 1, 1) := by decide +kernel
theorem dL_pass_14 : decode cL_pass 14 = .ok (.ireturn, 1) := by decide +kernel
theorem dL_pass_15 : decode cL_pass 15 = .ok (.iconst 0, 1) := by decide +kernel
theorem dL_pass_16 : decode cL_pass 16 = .ok (.ireturn, 1) := by decide +kernel
theorem dL_nextExpiry_0 : decode cL_nextExpiry 0 = .ok (.aload_n 1, 1) := by decide +kernel
theorem dL_nextExpiry_1 : decode cL_nextExpiry 1 = .ok (.iconst 0, 1) := by decide +kernel
theorem dL_nextExpiry_2 : decode cL_nextExpiry 2 = .ok (.aload_n 0, 1) := by decide +kernel
theorem dL_nextExpiry_3 : decode cL_nextExpiry 3 = .ok (.invokevirtual 81, 3) := by decide +kernel
theorem dL_nextExpiry_6 : decode cL_nextExpiry 6 = .ok (.i2l, 1) := by decide +kernel
theorem dL_nextExpiry_7 : decode cL_nextExpiry 7 = .ok (.lastore, 1) := by decide +kernel
theorem dL_nextExpiry_8 : decode cL_nextExpiry 8 = .ok (.goto 6, 3) := by decide +kernel
theorem dL_nextExpiry_11 : decode cL_nextExpiry 11 = .ok (.astore_n 2, 1) := by decide +kernel
theorem dL_nextExpiry_12 : decode cL_nextExpiry 12 = .ok (.iconst 1, 1) := by decide +kernel
theorem dL_nextExpiry_13 : decode cL_nextExpiry 13 = .ok (.ireturn, 1) := by decide +kernel
theorem dL_nextExpiry_14 : decode cL_nextExpiry 14 = .ok (.iconst 0, 1) := by decide +kernel
theorem dL_nextExpiry_15 : decode cL_nextExpiry 15 = .ok (.ireturn, 1) := by decide +kernel
theorem dL_wish_0 : decode cL_wish 0 = .ok (.aload_n 3, 1) := by decide +kernel
theorem dL_wish_1 : decode cL_wish 1 = .ok (.iconst 0, 1) := by decide +kernel
theorem dL_wish_2 : decode cL_wish 2 = .ok (.aload_n 0, 1) := by decide +kernel
theorem dL_wish_3 : decode cL_wish 3 = .ok (.iload_n 1, 1) := by decide +kernel
theorem dL_wish_4 : decode cL_wish 4 = .ok (.iload_n 2, 1) := by decide +kernel
theorem dL_wish_5 : decode cL_wish 5 = .ok (.invokevirtual 85, 3) := by decide +kernel
theorem dL_wish_8 : decode cL_wish 8 = .ok (.i2l, 1) := by decide +kernel
theorem dL_wish_9 : decode cL_wish 9 = .ok (.lastore, 1) := by decide +kernel
theorem dL_wish_10 : decode cL_wish 10 = .ok (.goto 11, 3) := by decide +kernel
theorem dL_wish_13 : decode cL_wish 13 = .ok (.astore 4, 2) := by decide +kernel
theorem dL_wish_15 : decode cL_wish 15 = .ok (.iconst 1, 1) := by decide +kernel
theorem dL_wish_16 : decode cL_wish 16 = .ok (.ireturn, 1) := by decide +kernel
theorem dL_wish_17 : decode cL_wish 17 = .ok (.astore 4, 2) := by decide +kernel
theorem dL_wish_19 : decode cL_wish 19 = .ok (.iconst 2, 1) := by decide +kernel
theorem dL_wish_20 : decode cL_wish 20 = .ok (.ireturn, 1) := by decide +kernel
theorem dL_wish_21 : decode cL_wish 21 = .ok (.iconst 0, 1) := by decide +kernel
theorem dL_wish_22 : decode cL_wish 22 = .ok (.ireturn, 1) := by decide +kernel
theorem dL_exchange_0 : decode cL_exchange 0 = .ok (.aload_n 2, 1) := by decide +kernel
theorem dL_exchange_1 : decode cL_exchange 1 = .ok (.iconst 0, 1) := by decide +kernel
theorem dL_exchange_2 : decode cL_exchange 2 = .ok (.aload_n 0, 1) := by decide +kernel
theorem dL_exchange_3 : decode cL_exchange 3 = .ok (.iload_n 1, 1) := by decide +kernel
theorem dL_exchange_4 : decode cL_exchange 4 = .ok (.invokevirtual 88, 3) := by decide +kernel
theorem dL_exchange_7 : decode cL_exchange 7 = .ok (.i2l, 1) := by decide +kernel
theorem dL_exchange_8 : decode cL_exchange 8 = .ok (.lastore, 1) := by decide +kernel
theorem dL_exchange_9 : decode cL_exchange 9 = .ok (.goto 9, 3) := by decide +kernel
theorem dL_exchange_12 : decode cL_exchange 12 = .ok (.astore_n 3, 1) := by decide +kernel
theorem dL_exchange_13 : decode cL_exchange 13 = .ok (.iconst 1, 1) := by decide +kernel
theorem dL_exchange_14 : decode cL_exchange 14 = .ok (.ireturn, 1) := by decide +kernel
theorem dL_exchange_15 : decode cL_exchange 15 = .ok (.astore_n 3, 1) := by decide +kernel
theorem dL_exchange_16 : decode cL_exchange 16 = .ok (.iconst 2, 1) := by decide +kernel
theorem dL_exchange_17 : decode cL_exchange 17 = .ok (.ireturn, 1) := by decide +kernel
theorem dL_exchange_18 : decode cL_exchange 18 = .ok (.iconst 0, 1) := by decide +kernel
theorem dL_exchange_19 : decode cL_exchange 19 = .ok (.ireturn, 1) := by decide +kernel
theorem dL_law_0 : decode cL_law 0 = .ok (.new 8, 3) := by decide +kernel
theorem dL_law_3 : decode cL_law 3 = .ok (.dup, 1) := by decide +kernel
theorem dL_law_4 : decode cL_law 4 = .ok (.invokespecial 91, 3) := by decide +kernel
theorem dL_law_7 : decode cL_law 7 = .ok (.astore_n 1, 1) := by decide +kernel
theorem dL_law_8 : decode cL_law 8 = .ok (.new 92, 3) := by decide +kernel
theorem dL_law_11 : decode cL_law 11 = .ok (.dup, 1) := by decide +kernel
theorem dL_law_12 : decode cL_law 12 = .ok (.invokespecial 94, 3) := by decide +kernel
theorem dL_law_15 : decode cL_law 15 = .ok (.astore_n 2, 1) := by decide +kernel
theorem dL_law_16 : decode cL_law 16 = .ok (.iconst 1, 1) := by decide +kernel
theorem dL_law_17 : decode cL_law 17 = .ok (.newarray .long, 2) := by decide +kernel
theorem dL_law_19 : decode cL_law 19 = .ok (.astore_n 3, 1) := by decide +kernel
theorem dL_law_20 : decode cL_law 20 = .ok (.iconst 0, 1) := by decide +kernel
theorem dL_law_21 : decode cL_law 21 = .ok (.istore 4, 2) := by decide +kernel
theorem dL_law_23 : decode cL_law 23 = .ok (.iload 4, 2) := by decide +kernel
theorem dL_law_25 : decode cL_law 25 = .ok (.aload_n 0, 1) := by decide +kernel
theorem dL_law_26 : decode cL_law 26 = .ok (.arraylength, 1) := by decide +kernel
theorem dL_law_27 : decode cL_law 27 = .ok (.iconst 5, 1) := by decide +kernel
theorem dL_law_28 : decode cL_law 28 = .ok (.isub, 1) := by decide +kernel
theorem dL_law_29 : decode cL_law 29 = .ok (.if_icmp .gt 1681, 3) := by decide +kernel
theorem dL_law_32 : decode cL_law 32 = .ok (.aload_n 0, 1) := by decide +kernel
theorem dL_law_33 : decode cL_law 33 = .ok (.iload 4, 2) := by decide +kernel
theorem dL_law_35 : decode cL_law 35 = .ok (.iaload, 1) := by decide +kernel
theorem dL_law_36 : decode cL_law 36 = .ok (.bipush 31, 2) := by decide +kernel
theorem dL_law_38 : decode cL_law 38 = .ok (.iand, 1) := by decide +kernel
theorem dL_law_39 : decode cL_law 39 = .ok (.tableswitch 1665 0 28 #[129, 209, 284, 297, 365, 433, 501, 557, 570, 583, 639, 702, 770, 862, 918, 986, 1054, 1067, 1123, 1179, 1235, 1303, 1359, 1415, 1428, 1441, 1497, 1541, 1609], 129) := by decide +kernel
theorem dL_law_168 : decode cL_law 168 = .ok (.aload_n 1, 1) := by decide +kernel
theorem dL_law_169 : decode cL_law 169 = .ok (.aload_n 0, 1) := by decide +kernel
theorem dL_law_170 : decode cL_law 170 = .ok (.iload 4, 2) := by decide +kernel
theorem dL_law_172 : decode cL_law 172 = .ok (.iconst 1, 1) := by decide +kernel
theorem dL_law_173 : decode cL_law 173 = .ok (.iadd, 1) := by decide +kernel
theorem dL_law_174 : decode cL_law 174 = .ok (.iaload, 1) := by decide +kernel
theorem dL_law_175 : decode cL_law 175 = .ok (.aload_n 0, 1) := by decide +kernel
theorem dL_law_176 : decode cL_law 176 = .ok (.iload 4, 2) := by decide +kernel
theorem dL_law_178 : decode cL_law 178 = .ok (.iconst 2, 1) := by decide +kernel
theorem dL_law_179 : decode cL_law 179 = .ok (.iadd, 1) := by decide +kernel
theorem dL_law_180 : decode cL_law 180 = .ok (.iaload, 1) := by decide +kernel
theorem dL_law_181 : decode cL_law 181 = .ok (.aload_n 0, 1) := by decide +kernel
theorem dL_law_182 : decode cL_law 182 = .ok (.iload 4, 2) := by decide +kernel
theorem dL_law_184 : decode cL_law 184 = .ok (.iconst 3, 1) := by decide +kernel
theorem dL_law_185 : decode cL_law 185 = .ok (.iadd, 1) := by decide +kernel
theorem dL_law_186 : decode cL_law 186 = .ok (.iaload, 1) := by decide +kernel
theorem dL_law_187 : decode cL_law 187 = .ok (.aload_n 3, 1) := by decide +kernel
theorem dL_law_188 : decode cL_law 188 = .ok (.invokestatic 95, 3) := by decide +kernel
theorem dL_law_191 : decode cL_law 191 = .ok (.istore 5, 2) := by decide +kernel
theorem dL_law_193 : decode cL_law 193 = .ok (.aload_n 2, 1) := by decide +kernel
theorem dL_law_194 : decode cL_law 194 = .ok (.aload_n 0, 1) := by decide +kernel
theorem dL_law_195 : decode cL_law 195 = .ok (.iload 4, 2) := by decide +kernel
theorem dL_law_197 : decode cL_law 197 = .ok (.iconst 1, 1) := by decide +kernel
theorem dL_law_198 : decode cL_law 198 = .ok (.iadd, 1) := by decide +kernel
theorem dL_law_199 : decode cL_law 199 = .ok (.iaload, 1) := by decide +kernel
theorem dL_law_200 : decode cL_law 200 = .ok (.aload_n 0, 1) := by decide +kernel
theorem dL_law_201 : decode cL_law 201 = .ok (.iload 4, 2) := by decide +kernel
theorem dL_law_203 : decode cL_law 203 = .ok (.iconst 2, 1) := by decide +kernel
theorem dL_law_204 : decode cL_law 204 = .ok (.iadd, 1) := by decide +kernel
theorem dL_law_205 : decode cL_law 205 = .ok (.iaload, 1) := by decide +kernel
theorem dL_law_206 : decode cL_law 206 = .ok (.aload_n 0, 1) := by decide +kernel
theorem dL_law_207 : decode cL_law 207 = .ok (.iload 4, 2) := by decide +kernel
theorem dL_law_209 : decode cL_law 209 = .ok (.iconst 3, 1) := by decide +kernel
theorem dL_law_210 : decode cL_law 210 = .ok (.iadd, 1) := by decide +kernel
theorem dL_law_211 : decode cL_law 211 = .ok (.iaload, 1) := by decide +kernel
theorem dL_law_212 : decode cL_law 212 = .ok (.invokevirtual 100, 3) := by decide +kernel
theorem dL_law_215 : decode cL_law 215 = .ok (.istore 6, 2) := by decide +kernel
theorem dL_law_217 : decode cL_law 217 = .ok (.aload_n 2, 1) := by decide +kernel
theorem dL_law_218 : decode cL_law 218 = .ok (.invokevirtual 101, 3) := by decide +kernel
theorem dL_law_221 : decode cL_law 221 = .ok (.iload 5, 2) := by decide +kernel
theorem dL_law_223 : decode cL_law 223 = .ok (.if_icmp .eq 5, 3) := by decide +kernel
theorem dL_law_226 : decode cL_law 226 = .ok (.iconst 0, 1) := by decide +kernel
theorem dL_law_227 : decode cL_law 227 = .ok (.ireturn, 1) := by decide +kernel
theorem dL_law_228 : decode cL_law 228 = .ok (.iload 5, 2) := by decide +kernel
theorem dL_law_230 : decode cL_law 230 = .ok (.ifCond .ne 15, 3) := by decide +kernel
theorem dL_law_233 : decode cL_law 233 = .ok (.aload_n 3, 1) := by decide +kernel
theorem dL_law_234 : decode cL_law 234 = .ok (.iconst 0, 1) := by decide +kernel
theorem dL_law_235 : decode cL_law 235 = .ok (.laload, 1) := by decide +kernel
theorem dL_law_236 : decode cL_law 236 = .ok (.iload 6, 2) := by decide +kernel
theorem dL_law_238 : decode cL_law 238 = .ok (.i2l, 1) := by decide +kernel
theorem dL_law_239 : decode cL_law 239 = .ok (.lcmp, 1) := by decide +kernel
theorem dL_law_240 : decode cL_law 240 = .ok (.ifCond .eq 5, 3) := by decide +kernel
theorem dL_law_243 : decode cL_law 243 = .ok (.iconst 0, 1) := by decide +kernel
theorem dL_law_244 : decode cL_law 244 = .ok (.ireturn, 1) := by decide +kernel
theorem dL_law_245 : decode cL_law 245 = .ok (.goto 1459, 3) := by decide +kernel
theorem dL_law_248 : decode cL_law 248 = .ok (.aload_n 1, 1) := by decide +kernel
theorem dL_law_249 : decode cL_law 249 = .ok (.aload_n 0, 1) := by decide +kernel
theorem dL_law_250 : decode cL_law 250 = .ok (.iload 4, 2) := by decide +kernel
theorem dL_law_252 : decode cL_law 252 = .ok (.iconst 1, 1) := by decide +kernel
theorem dL_law_253 : decode cL_law 253 = .ok (.iadd, 1) := by decide +kernel
theorem dL_law_254 : decode cL_law 254 = .ok (.iaload, 1) := by decide +kernel
theorem dL_law_255 : decode cL_law 255 = .ok (.aload_n 0, 1) := by decide +kernel
theorem dL_law_256 : decode cL_law 256 = .ok (.iload 4, 2) := by decide +kernel
theorem dL_law_258 : decode cL_law 258 = .ok (.iconst 2, 1) := by decide +kernel
theorem dL_law_259 : decode cL_law 259 = .ok (.iadd, 1) := by decide +kernel
theorem dL_law_260 : decode cL_law 260 = .ok (.iaload, 1) := by decide +kernel
theorem dL_law_261 : decode cL_law 261 = .ok (.aload_n 3, 1) := by decide +kernel
theorem dL_law_262 : decode cL_law 262 = .ok (.invokestatic 104, 3) := by decide +kernel
theorem dL_law_265 : decode cL_law 265 = .ok (.istore 5, 2) := by decide +kernel
theorem dL_law_267 : decode cL_law 267 = .ok (.aload_n 2, 1) := by decide +kernel
theorem dL_law_268 : decode cL_law 268 = .ok (.aload_n 0, 1) := by decide +kernel
theorem dL_law_269 : decode cL_law 269 = .ok (.iload 4, 2) := by decide +kernel
theorem dL_law_271 : decode cL_law 271 = .ok (.iconst 1, 1) := by decide +kernel
theorem dL_law_272 : decode cL_law 272 = .ok (.iadd, 1) := by decide +kernel
theorem dL_law_273 : decode cL_law 273 = .ok (.iaload, 1) := by decide +kernel
theorem dL_law_274 : decode cL_law 274 = .ok (.aload_n 0, 1) := by decide +kernel
theorem dL_law_275 : decode cL_law 275 = .ok (.iload 4, 2) := by decide +kernel
theorem dL_law_277 : decode cL_law 277 = .ok (.iconst 2, 1) := by decide +kernel
theorem dL_law_278 : decode cL_law 278 = .ok (.iadd, 1) := by decide +kernel
theorem dL_law_279 : decode cL_law 279 = .ok (.iaload, 1) := by decide +kernel
theorem dL_law_280 : decode cL_law 280 = .ok (.invokevirtual 107, 3) := by decide +kernel
theorem dL_law_283 : decode cL_law 283 = .ok (.istore 6, 2) := by decide +kernel
theorem dL_law_285 : decode cL_law 285 = .ok (.aload_n 2, 1) := by decide +kernel
theorem dL_law_286 : decode cL_law 286 = .ok (.invokevirtual 101, 3) := by decide +kernel
theorem dL_law_289 : decode cL_law 289 = .ok (.iload 5, 2) := by decide +kernel
theorem dL_law_291 : decode cL_law 291 = .ok (.if_icmp .eq 5, 3) := by decide +kernel
theorem dL_law_294 : decode cL_law 294 = .ok (.iconst 0, 1) := by decide +kernel
theorem dL_law_295 : decode cL_law 295 = .ok (.ireturn, 1) := by decide +kernel
theorem dL_law_296 : decode cL_law 296 = .ok (.iload 5, 2) := by decide +kernel
theorem dL_law_298 : decode cL_law 298 = .ok (.ifCond .ne 22, 3) := by decide +kernel
theorem dL_law_301 : decode cL_law 301 = .ok (.aload_n 3, 1) := by decide +kernel
theorem dL_law_302 : decode cL_law 302 = .ok (.iconst 0, 1) := by decide +kernel
theorem dL_law_303 : decode cL_law 303 = .ok (.laload, 1) := by decide +kernel
theorem dL_law_304 : decode cL_law 304 = .ok (.iload 6, 2) := by decide +kernel
theorem dL_law_306 : decode cL_law 306 = .ok (.ifCond .eq 7, 3) := by decide +kernel
theorem dL_law_309 : decode cL_law 309 = .ok (.lconst 1, 1) := by decide +kernel
theorem dL_law_310 : decode cL_law 310 = .ok (.goto 4, 3) := by decide +kernel
theorem dL_law_313 : decode cL_law 313 = .ok (.lconst 0, 1) := by decide +kernel
theorem dL_law_314 : decode cL_law 314 = .ok (.lcmp, 1) := by decide +kernel
theorem dL_law_315 : decode cL_law 315 = .ok (.ifCond .eq 5, 3) := by decide +kernel
theorem dL_law_318 : decode cL_law 318 = .ok (.iconst 0, 1) := by decide +kernel
theorem dL_law_319 : decode cL_law 319 = .ok (.ireturn, 1) := by decide +kernel
theorem dL_law_320 : decode cL_law 320 = .ok (.goto 1384, 3) := by decide +kernel
theorem dL_law_323 : decode cL_law 323 = .ok (.aload_n 1, 1) := by decide +kernel
theorem dL_law_324 : decode cL_law 324 = .ok (.invokevirtual 108, 3) := by decide +kernel
theorem dL_law_327 : decode cL_law 327 = .ok (.aload_n 2, 1) := by decide +kernel
theorem dL_law_328 : decode cL_law 328 = .ok (.invokevirtual 111, 3) := by decide +kernel
theorem dL_law_331 : decode cL_law 331 = .ok (.if_icmp .eq 1373, 3) := by decide +kernel
theorem dL_law_334 : decode cL_law 334 = .ok (.iconst 0, 1) := by decide +kernel
theorem dL_law_335 : decode cL_law 335 = .ok (.ireturn, 1) := by decide +kernel
theorem dL_law_336 : decode cL_law 336 = .ok (.aload_n 1, 1) := by decide +kernel
theorem dL_law_337 : decode cL_law 337 = .ok (.aload_n 0, 1) := by decide +kernel
theorem dL_law_338 : decode cL_law 338 = .ok (.iload 4, 2) := by decide +kernel
theorem dL_law_340 : decode cL_law 340 = .ok (.iconst 1, 1) := by decide +kernel
theorem dL_law_341 : decode cL_law 341 = .ok (.iadd, 1) := by decide +kernel
theorem dL_law_342 : decode cL_law 342 = .ok (.iaload, 1) := by decide +kernel
theorem dL_law_343 : decode cL_law 343 = .ok (.aload_n 0, 1) := by decide +kernel
theorem dL_law_344 : decode cL_law 344 = .ok (.iload 4, 2) := by decide +kernel
theorem dL_law_346 : decode cL_law 346 = .ok (.iconst 2, 1) := by decide +kernel
theorem dL_law_347 : decode cL_law 347 = .ok (.iadd, 1) := by decide +kernel
theorem dL_law_348 : decode cL_law 348 = .ok (.iaload, 1) := by decide +kernel
theorem dL_law_349 : decode cL_law 349 = .ok (.aload_n 3, 1) := by decide +kernel
theorem dL_law_350 : decode cL_law 350 = .ok (.invokestatic 112, 3) := by decide +kernel
theorem dL_law_353 : decode cL_law 353 = .ok (.istore 5, 2) := by decide +kernel
theorem dL_law_355 : decode cL_law 355 = .ok (.aload_n 2, 1) := by decide +kernel
theorem dL_law_356 : decode cL_law 356 = .ok (.aload_n 0, 1) := by decide +kernel
theorem dL_law_357 : decode cL_law 357 = .ok (.iload 4, 2) := by decide +kernel
theorem dL_law_359 : decode cL_law 359 = .ok (.iconst 1, 1) := by decide +kernel
theorem dL_law_360 : decode cL_law 360 = .ok (.iadd, 1) := by decide +kernel
theorem dL_law_361 : decode cL_law 361 = .ok (.iaload, 1) := by decide +kernel
theorem dL_law_362 : decode cL_law 362 = .ok (.aload_n 0, 1) := by decide +kernel
theorem dL_law_363 : decode cL_law 363 = .ok (.iload 4, 2) := by decide +kernel
theorem dL_law_365 : decode cL_law 365 = .ok (.iconst 2, 1) := by decide +kernel
theorem dL_law_366 : decode cL_law 366 = .ok (.iadd, 1) := by decide +kernel
theorem dL_law_367 : decode cL_law 367 = .ok (.iaload, 1) := by decide +kernel
theorem dL_law_368 : decode cL_law 368 = .ok (.invokevirtual 114, 3) := by decide +kernel
theorem dL_law_371 : decode cL_law 371 = .ok (.istore 6, 2) := by decide +kernel
theorem dL_law_373 : decode cL_law 373 = .ok (.aload_n 2, 1) := by decide +kernel
theorem dL_law_374 : decode cL_law 374 = .ok (.invokevirtual 101, 3) := by decide +kernel
theorem dL_law_377 : decode cL_law 377 = .ok (.iload 5, 2) := by decide +kernel
theorem dL_law_379 : decode cL_law 379 = .ok (.if_icmp .eq 5, 3) := by decide +kernel
theorem dL_law_382 : decode cL_law 382 = .ok (.iconst 0, 1) := by decide +kernel
theorem dL_law_383 : decode cL_law 383 = .ok (.ireturn, 1) := by decide +kernel
theorem dL_law_384 : decode cL_law 384 = .ok (.iload 5, 2) := by decide +kernel
theorem dL_law_386 : decode cL_law 386 = .ok (.ifCond .ne 15, 3) := by decide +kernel
theorem dL_law_389 : decode cL_law 389 = .ok (.aload_n 3, 1) := by decide +kernel
theorem dL_law_390 : decode cL_law 390 = .ok (.iconst 0, 1) := by decide +kernel
theorem dL_law_391 : decode cL_law 391 = .ok (.laload, 1) := by decide +kernel
theorem dL_law_392 : decode cL_law 392 = .ok (.iload 6, 2) := by decide +kernel
theorem dL_law_394 : decode cL_law 394 = .ok (.i2l, 1) := by decide +kernel
theorem dL_law_395 : decode cL_law 395 = .ok (.lcmp, 1) := by decide +kernel
theorem dL_law_396 : decode cL_law 396 = .ok (.ifCond .eq 5, 3) := by decide +kernel
theorem dL_law_399 : decode cL_law 399 = .ok (.iconst 0, 1) := by decide +kernel
theorem dL_law_400 : decode cL_law 400 = .ok (.ireturn, 1) := by decide +kernel
theorem dL_law_401 : decode cL_law 401 = .ok (.goto 1303, 3) := by decide +kernel
theorem dL_law_404 : decode cL_law 404 = .ok (.aload_n 1, 1) := by decide +kernel
theorem dL_law_405 : decode cL_law 405 = .ok (.aload_n 0, 1) := by decide +kernel
theorem dL_law_406 : decode cL_law 406 = .ok (.iload 4, 2) := by decide +kernel
theorem dL_law_408 : decode cL_law 408 = .ok (.iconst 1, 1) := by decide +kernel
theorem dL_law_409 : decode cL_law 409 = .ok (.iadd, 1) := by decide +kernel
theorem dL_law_410 : decode cL_law 410 = .ok (.iaload, 1) := by decide +kernel
theorem dL_law_411 : decode cL_law 411 = .ok (.aload_n 0, 1) := by decide +kernel
theorem dL_law_412 : decode cL_law 412 = .ok (.iload 4, 2) := by decide +kernel
theorem dL_law_414 : decode cL_law 414 = .ok (.iconst 2, 1) := by decide +kernel
theorem dL_law_415 : decode cL_law 415 = .ok (.iadd, 1) := by decide +kernel
theorem dL_law_416 : decode cL_law 416 = .ok (.iaload, 1) := by decide +kernel
theorem dL_law_417 : decode cL_law 417 = .ok (.aload_n 3, 1) := by decide +kernel
theorem dL_law_418 : decode cL_law 418 = .ok (.invokestatic 115, 3) := by decide +kernel
theorem dL_law_421 : decode cL_law 421 = .ok (.istore 5, 2) := by decide +kernel
theorem dL_law_423 : decode cL_law 423 = .ok (.aload_n 2, 1) := by decide +kernel
theorem dL_law_424 : decode cL_law 424 = .ok (.aload_n 0, 1) := by decide +kernel
theorem dL_law_425 : decode cL_law 425 = .ok (.iload 4, 2) := by decide +kernel
theorem dL_law_427 : decode cL_law 427 = .ok (.iconst 1, 1) := by decide +kernel
theorem dL_law_428 : decode cL_law 428 = .ok (.iadd, 1) := by decide +kernel
theorem dL_law_429 : decode cL_law 429 = .ok (.iaload, 1) := by decide +kernel
theorem dL_law_430 : decode cL_law 430 = .ok (.aload_n 0, 1) := by decide +kernel
theorem dL_law_431 : decode cL_law 431 = .ok (.iload 4, 2) := by decide +kernel
theorem dL_law_433 : decode cL_law 433 = .ok (.iconst 2, 1) := by decide +kernel
theorem dL_law_434 : decode cL_law 434 = .ok (.iadd, 1) := by decide +kernel
theorem dL_law_435 : decode cL_law 435 = .ok (.iaload, 1) := by decide +kernel
theorem dL_law_436 : decode cL_law 436 = .ok (.invokevirtual 117, 3) := by decide +kernel
theorem dL_law_439 : decode cL_law 439 = .ok (.istore 6, 2) := by decide +kernel
theorem dL_law_441 : decode cL_law 441 = .ok (.aload_n 2, 1) := by decide +kernel
theorem dL_law_442 : decode cL_law 442 = .ok (.invokevirtual 101, 3) := by decide +kernel
theorem dL_law_445 : decode cL_law 445 = .ok (.iload 5, 2) := by decide +kernel
theorem dL_law_447 : decode cL_law 447 = .ok (.if_icmp .eq 5, 3) := by decide +kernel
theorem dL_law_450 : decode cL_law 450 = .ok (.iconst 0, 1) := by decide +kernel
theorem dL_law_451 : decode cL_law 451 = .ok (.ireturn, 1) := by decide +kernel
theorem dL_law_452 : decode cL_law 452 = .ok (.iload 5, 2) := by decide +kernel
theorem dL_law_454 : decode cL_law 454 = .ok (.ifCond .ne 15, 3) := by decide +kernel
theorem dL_law_457 : decode cL_law 457 = .ok (.aload_n 3, 1) := by decide +kernel
theorem dL_law_458 : decode cL_law 458 = .ok (.iconst 0, 1) := by decide +kernel
theorem dL_law_459 : decode cL_law 459 = .ok (.laload, 1) := by decide +kernel
theorem dL_law_460 : decode cL_law 460 = .ok (.iload 6, 2) := by decide +kernel
theorem dL_law_462 : decode cL_law 462 = .ok (.i2l, 1) := by decide +kernel
theorem dL_law_463 : decode cL_law 463 = .ok (.lcmp, 1) := by decide +kernel
theorem dL_law_464 : decode cL_law 464 = .ok (.ifCond .eq 5, 3) := by decide +kernel
theorem dL_law_467 : decode cL_law 467 = .ok (.iconst 0, 1) := by decide +kernel
theorem dL_law_468 : decode cL_law 468 = .ok (.ireturn, 1) := by decide +kernel
theorem dL_law_469 : decode cL_law 469 = .ok (.goto 1235, 3) := by decide +kernel
theorem dL_law_472 : decode cL_law 472 = .ok (.aload_n 1, 1) := by decide +kernel
theorem dL_law_473 : decode cL_law 473 = .ok (.aload_n 0, 1) := by decide +kernel
theorem dL_law_474 : decode cL_law 474 = .ok (.iload 4, 2) := by decide +kernel
theorem dL_law_476 : decode cL_law 476 = .ok (.iconst 1, 1) := by decide +kernel
theorem dL_law_477 : decode cL_law 477 = .ok (.iadd, 1) := by decide +kernel
theorem dL_law_478 : decode cL_law 478 = .ok (.iaload, 1) := by decide +kernel
theorem dL_law_479 : decode cL_law 479 = .ok (.aload_n 0, 1) := by decide +kernel
theorem dL_law_480 : decode cL_law 480 = .ok (.iload 4, 2) := by decide +kernel
theorem dL_law_482 : decode cL_law 482 = .ok (.iconst 2, 1) := by decide +kernel
theorem dL_law_483 : decode cL_law 483 = .ok (.iadd, 1) := by decide +kernel
theorem dL_law_484 : decode cL_law 484 = .ok (.iaload, 1) := by decide +kernel
theorem dL_law_485 : decode cL_law 485 = .ok (.aload_n 3, 1) := by decide +kernel
theorem dL_law_486 : decode cL_law 486 = .ok (.invokestatic 118, 3) := by decide +kernel
theorem dL_law_489 : decode cL_law 489 = .ok (.istore 5, 2) := by decide +kernel
theorem dL_law_491 : decode cL_law 491 = .ok (.aload_n 2, 1) := by decide +kernel
theorem dL_law_492 : decode cL_law 492 = .ok (.aload_n 0, 1) := by decide +kernel
theorem dL_law_493 : decode cL_law 493 = .ok (.iload 4, 2) := by decide +kernel
theorem dL_law_495 : decode cL_law 495 = .ok (.iconst 1, 1) := by decide +kernel
theorem dL_law_496 : decode cL_law 496 = .ok (.iadd, 1) := by decide +kernel
theorem dL_law_497 : decode cL_law 497 = .ok (.iaload, 1) := by decide +kernel
theorem dL_law_498 : decode cL_law 498 = .ok (.aload_n 0, 1) := by decide +kernel
theorem dL_law_499 : decode cL_law 499 = .ok (.iload 4, 2) := by decide +kernel
theorem dL_law_501 : decode cL_law 501 = .ok (.iconst 2, 1) := by decide +kernel
theorem dL_law_502 : decode cL_law 502 = .ok (.iadd, 1) := by decide +kernel
theorem dL_law_503 : decode cL_law 503 = .ok (.iaload, 1) := by decide +kernel
theorem dL_law_504 : decode cL_law 504 = .ok (.invokevirtual 120, 3) := by decide +kernel
theorem dL_law_507 : decode cL_law 507 = .ok (.istore 6, 2) := by decide +kernel
theorem dL_law_509 : decode cL_law 509 = .ok (.aload_n 2, 1) := by decide +kernel
theorem dL_law_510 : decode cL_law 510 = .ok (.invokevirtual 101, 3) := by decide +kernel
theorem dL_law_513 : decode cL_law 513 = .ok (.iload 5, 2) := by decide +kernel
theorem dL_law_515 : decode cL_law 515 = .ok (.if_icmp .eq 5, 3) := by decide +kernel
theorem dL_law_518 : decode cL_law 518 = .ok (.iconst 0, 1) := by decide +kernel
theorem dL_law_519 : decode cL_law 519 = .ok (.ireturn, 1) := by decide +kernel
theorem dL_law_520 : decode cL_law 520 = .ok (.iload 5, 2) := by decide +kernel
theorem dL_law_522 : decode cL_law 522 = .ok (.ifCond .ne 15, 3) := by decide +kernel
theorem dL_law_525 : decode cL_law 525 = .ok (.aload_n 3, 1) := by decide +kernel
theorem dL_law_526 : decode cL_law 526 = .ok (.iconst 0, 1) := by decide +kernel
theorem dL_law_527 : decode cL_law 527 = .ok (.laload, 1) := by decide +kernel
theorem dL_law_528 : decode cL_law 528 = .ok (.iload 6, 2) := by decide +kernel
theorem dL_law_530 : decode cL_law 530 = .ok (.i2l, 1) := by decide +kernel
theorem dL_law_531 : decode cL_law 531 = .ok (.lcmp, 1) := by decide +kernel
theorem dL_law_532 : decode cL_law 532 = .ok (.ifCond .eq 5, 3) := by decide +kernel
theorem dL_law_535 : decode cL_law 535 = .ok (.iconst 0, 1) := by decide +kernel
theorem dL_law_536 : decode cL_law 536 = .ok (.ireturn, 1) := by decide +kernel
theorem dL_law_537 : decode cL_law 537 = .ok (.goto 1167, 3) := by decide +kernel
theorem dL_law_540 : decode cL_law 540 = .ok (.aload_n 1, 1) := by decide +kernel
theorem dL_law_541 : decode cL_law 541 = .ok (.aload_n 0, 1) := by decide +kernel
theorem dL_law_542 : decode cL_law 542 = .ok (.iload 4, 2) := by decide +kernel
theorem dL_law_544 : decode cL_law 544 = .ok (.iconst 1, 1) := by decide +kernel
theorem dL_law_545 : decode cL_law 545 = .ok (.iadd, 1) := by decide +kernel
theorem dL_law_546 : decode cL_law 546 = .ok (.iaload, 1) := by decide +kernel
theorem dL_law_547 : decode cL_law 547 = .ok (.aload_n 3, 1) := by decide +kernel
theorem dL_law_548 : decode cL_law 548 = .ok (.invokestatic 121, 3) := by decide +kernel
theorem dL_law_551 : decode cL_law 551 = .ok (.istore 5, 2) := by decide +kernel
theorem dL_law_553 : decode cL_law 553 = .ok (.aload_n 2, 1) := by decide +kernel
theorem dL_law_554 : decode cL_law 554 = .ok (.aload_n 0, 1) := by decide +kernel
theorem dL_law_555 : decode cL_law 555 = .ok (.iload 4, 2) := by decide +kernel
theorem dL_law_557 : decode cL_law 557 = .ok (.iconst 1, 1) := by decide +kernel
theorem dL_law_558 : decode cL_law 558 = .ok (.iadd, 1) := by decide +kernel
theorem dL_law_559 : decode cL_law 559 = .ok (.iaload, 1) := by decide +kernel
theorem dL_law_560 : decode cL_law 560 = .ok (.invokevirtual 124, 3) := by decide +kernel
theorem dL_law_563 : decode cL_law 563 = .ok (.istore 6, 2) := by decide +kernel
theorem dL_law_565 : decode cL_law 565 = .ok (.aload_n 2, 1) := by decide +kernel
theorem dL_law_566 : decode cL_law 566 = .ok (.invokevirtual 101, 3) := by decide +kernel
theorem dL_law_569 : decode cL_law 569 = .ok (.iload 5, 2) := by decide +kernel
theorem dL_law_571 : decode cL_law 571 = .ok (.if_icmp .eq 5, 3) := by decide +kernel
theorem dL_law_574 : decode cL_law 574 = .ok (.iconst 0, 1) := by decide +kernel
theorem dL_law_575 : decode cL_law 575 = .ok (.ireturn, 1) := by decide +kernel
theorem dL_law_576 : decode cL_law 576 = .ok (.iload 5, 2) := by decide +kernel
theorem dL_law_578 : decode cL_law 578 = .ok (.ifCond .ne 15, 3) := by decide +kernel
theorem dL_law_581 : decode cL_law 581 = .ok (.aload_n 3, 1) := by decide +kernel
theorem dL_law_582 : decode cL_law 582 = .ok (.iconst 0, 1) := by decide +kernel
theorem dL_law_583 : decode cL_law 583 = .ok (.laload, 1) := by decide +kernel
theorem dL_law_584 : decode cL_law 584 = .ok (.iload 6, 2) := by decide +kernel
theorem dL_law_586 : decode cL_law 586 = .ok (.i2l, 1) := by decide +kernel
theorem dL_law_587 : decode cL_law 587 = .ok (.lcmp, 1) := by decide +kernel
theorem dL_law_588 : decode cL_law 588 = .ok (.ifCond .eq 5, 3) := by decide +kernel
theorem dL_law_591 : decode cL_law 591 = .ok (.iconst 0, 1) := by decide +kernel
theorem dL_law_592 : decode cL_law 592 = .ok (.ireturn, 1) := by decide +kernel
theorem dL_law_593 : decode cL_law 593 = .ok (.goto 1111, 3) := by decide +kernel
theorem dL_law_596 : decode cL_law 596 = .ok (.aload_n 1, 1) := by decide +kernel
theorem dL_law_597 : decode cL_law 597 = .ok (.invokevirtual 125, 3) := by decide +kernel
theorem dL_law_600 : decode cL_law 600 = .ok (.aload_n 2, 1) := by decide +kernel
theorem dL_law_601 : decode cL_law 601 = .ok (.invokevirtual 128, 3) := by decide +kernel
theorem dL_law_604 : decode cL_law 604 = .ok (.if_icmp .eq 1100, 3) := by decide +kernel
theorem dL_law_607 : decode cL_law 607 = .ok (.iconst 0, 1) := by decide +kernel
theorem dL_law_608 : decode cL_law 608 = .ok (.ireturn, 1) := by decide +kernel
theorem dL_law_609 : decode cL_law 609 = .ok (.aload_n 1, 1) := by decide +kernel
theorem dL_law_610 : decode cL_law 610 = .ok (.invokevirtual 129, 3) := by decide +kernel
theorem dL_law_613 : decode cL_law 613 = .ok (.aload_n 2, 1) := by decide +kernel
theorem dL_law_614 : decode cL_law 614 = .ok (.invokevirtual 132, 3) := by decide +kernel
theorem dL_law_617 : decode cL_law 617 = .ok (.if_icmp .eq 1087, 3) := by decide +kernel
theorem dL_law_620 : decode cL_law 620 = .ok (.iconst 0, 1) := by decide +kernel
theorem dL_law_621 : decode cL_law 621 = .ok (.ireturn, 1) := by decide +kernel
theorem dL_law_622 : decode cL_law 622 = .ok (.aload_n 1, 1) := by decide +kernel
theorem dL_law_623 : decode cL_law 623 = .ok (.aload_n 0, 1) := by decide +kernel
theorem dL_law_624 : decode cL_law 624 = .ok (.iload 4, 2) := by decide +kernel
theorem dL_law_626 : decode cL_law 626 = .ok (.iconst 1, 1) := by decide +kernel
theorem dL_law_627 : decode cL_law 627 = .ok (.iadd, 1) := by decide +kernel
theorem dL_law_628 : decode cL_law 628 = .ok (.iaload, 1) := by decide +kernel
theorem dL_law_629 : decode cL_law 629 = .ok (.aload_n 3, 1) := by decide +kernel
theorem dL_law_630 : decode cL_law 630 = .ok (.invokestatic 133, 3) := by decide +kernel
theorem dL_law_633 : decode cL_law 633 = .ok (.istore 5, 2) := by decide +kernel
theorem dL_law_635 : decode cL_law 635 = .ok (.aload_n 2, 1) := by decide +kernel
theorem dL_law_636 : decode cL_law 636 = .ok (.aload_n 0, 1) := by decide +kernel
theorem dL_law_637 : decode cL_law 637 = .ok (.iload 4, 2) := by decide +kernel
theorem dL_law_639 : decode cL_law 639 = .ok (.iconst 1, 1) := by decide +kernel
theorem dL_law_640 : decode cL_law 640 = .ok (.iadd, 1) := by decide +kernel
theorem dL_law_641 : decode cL_law 641 = .ok (.iaload, 1) := by decide +kernel
theorem dL_law_642 : decode cL_law 642 = .ok (.invokevirtual 135, 3) := by decide +kernel
theorem dL_law_645 : decode cL_law 645 = .ok (.istore 6, 2) := by decide +kernel
theorem dL_law_647 : decode cL_law 647 = .ok (.aload_n 2, 1) := by decide +kernel
theorem dL_law_648 : decode cL_law 648 = .ok (.invokevirtual 101, 3) := by decide +kernel
theorem dL_law_651 : decode cL_law 651 = .ok (.iload 5, 2) := by decide +kernel
theorem dL_law_653 : decode cL_law 653 = .ok (.if_icmp .eq 5, 3) := by decide +kernel
theorem dL_law_656 : decode cL_law 656 = .ok (.iconst 0, 1) := by decide +kernel
theorem dL_law_657 : decode cL_law 657 = .ok (.ireturn, 1) := by decide +kernel
theorem dL_law_658 : decode cL_law 658 = .ok (.iload 5, 2) := by decide +kernel
theorem dL_law_660 : decode cL_law 660 = .ok (.ifCond .ne 15, 3) := by decide +kernel
theorem dL_law_663 : decode cL_law 663 = .ok (.aload_n 3, 1) := by decide +kernel
theorem dL_law_664 : decode cL_law 664 = .ok (.iconst 0, 1) := by decide +kernel
theorem dL_law_665 : decode cL_law 665 = .ok (.laload, 1) := by decide +kernel
theorem dL_law_666 : decode cL_law 666 = .ok (.iload 6, 2) := by decide +kernel
theorem dL_law_668 : decode cL_law 668 = .ok (.i2l, 1) := by decide +kernel
theorem dL_law_669 : decode cL_law 669 = .ok (.lcmp, 1) := by decide +kernel
theorem dL_law_670 : decode cL_law 670 = .ok (.ifCond .eq 5, 3) := by decide +kernel
theorem dL_law_673 : decode cL_law 673 = .ok (.iconst 0, 1) := by decide +kernel
theorem dL_law_674 : decode cL_law 674 = .ok (.ireturn, 1) := by decide +kernel
theorem dL_law_675 : decode cL_law 675 = .ok (.goto 1029, 3) := by decide +kernel
theorem dL_law_678 : decode cL_law 678 = .ok (.aload_n 1, 1) := by decide +kernel
theorem dL_law_679 : decode cL_law 679 = .ok (.aload_n 0, 1) := by decide +kernel
theorem dL_law_680 : decode cL_law 680 = .ok (.iload 4, 2) := by decide +kernel
theorem dL_law_682 : decode cL_law 682 = .ok (.iconst 1, 1) := by decide +kernel
theorem dL_law_683 : decode cL_law 683 = .ok (.iadd, 1) := by decide +kernel
theorem dL_law_684 : decode cL_law 684 = .ok (.iaload, 1) := by decide +kernel
theorem dL_law_685 : decode cL_law 685 = .ok (.aload_n 3, 1) := by decide +kernel
theorem dL_law_686 : decode cL_law 686 = .ok (.invokestatic 136, 3) := by decide +kernel
theorem dL_law_689 : decode cL_law 689 = .ok (.istore 5, 2) := by decide +kernel
theorem dL_law_691 : decode cL_law 691 = .ok (.aload_n 2, 1) := by decide +kernel
theorem dL_law_692 : decode cL_law 692 = .ok (.aload_n 0, 1) := by decide +kernel
theorem dL_law_693 : decode cL_law 693 = .ok (.iload 4, 2) := by decide +kernel
theorem dL_law_695 : decode cL_law 695 = .ok (.iconst 1, 1) := by decide +kernel
theorem dL_law_696 : decode cL_law 696 = .ok (.iadd, 1) := by decide +kernel
theorem dL_law_697 : decode cL_law 697 = .ok (.iaload, 1) := by decide +kernel
theorem dL_law_698 : decode cL_law 698 = .ok (.invokevirtual 138, 3) := by decide +kernel
theorem dL_law_701 : decode cL_law 701 = .ok (.istore 6, 2) := by decide +kernel
theorem dL_law_703 : decode cL_law 703 = .ok (.aload_n 2, 1) := by decide +kernel
theorem dL_law_704 : decode cL_law 704 = .ok (.invokevirtual 101, 3) := by decide +kernel
theorem dL_law_707 : decode cL_law 707 = .ok (.iload 5, 2) := by decide +kernel
theorem dL_law_709 : decode cL_law 709 = .ok (.if_icmp .eq 5, 3) := by decide +kernel
theorem dL_law_712 : decode cL_law 712 = .ok (.iconst 0, 1) := by decide +kernel
theorem dL_law_713 : decode cL_law 713 = .ok (.ireturn, 1) := by decide +kernel
theorem dL_law_714 : decode cL_law 714 = .ok (.iload 5, 2) := by decide +kernel
theorem dL_law_716 : decode cL_law 716 = .ok (.ifCond .ne 22, 3) := by decide +kernel
theorem dL_law_719 : decode cL_law 719 = .ok (.aload_n 3, 1) := by decide +kernel
theorem dL_law_720 : decode cL_law 720 = .ok (.iconst 0, 1) := by decide +kernel
theorem dL_law_721 : decode cL_law 721 = .ok (.laload, 1) := by decide +kernel
theorem dL_law_722 : decode cL_law 722 = .ok (.iload 6, 2) := by decide +kernel
theorem dL_law_724 : decode cL_law 724 = .ok (.ifCond .eq 7, 3) := by decide +kernel
theorem dL_law_727 : decode cL_law 727 = .ok (.lconst 1, 1) := by decide +kernel
theorem dL_law_728 : decode cL_law 728 = .ok (.goto 4, 3) := by decide +kernel
theorem dL_law_731 : decode cL_law 731 = .ok (.lconst 0, 1) := by decide +kernel
theorem dL_law_732 : decode cL_law 732 = .ok (.lcmp, 1) := by decide +kernel
theorem dL_law_733 : decode cL_law 733 = .ok (.ifCond .eq 5, 3) := by decide +kernel
theorem dL_law_736 : decode cL_law 736 = .ok (.iconst 0, 1) := by decide +kernel
theorem dL_law_737 : decode cL_law 737 = .ok (.ireturn, 1) := by decide +kernel
theorem dL_law_738 : decode cL_law 738 = .ok (.goto 966, 3) := by decide +kernel
theorem dL_law_741 : decode cL_law 741 = .ok (.aload_n 1, 1) := by decide +kernel
theorem dL_law_742 : decode cL_law 742 = .ok (.aload_n 0, 1) := by decide +kernel
theorem dL_law_743 : decode cL_law 743 = .ok (.iload 4, 2) := by decide +kernel
theorem dL_law_745 : decode cL_law 745 = .ok (.iconst 1, 1) := by decide +kernel
theorem dL_law_746 : decode cL_law 746 = .ok (.iadd, 1) := by decide +kernel
theorem dL_law_747 : decode cL_law 747 = .ok (.iaload, 1) := by decide +kernel
theorem dL_law_748 : decode cL_law 748 = .ok (.aload_n 0, 1) := by decide +kernel
theorem dL_law_749 : decode cL_law 749 = .ok (.iload 4, 2) := by decide +kernel
theorem dL_law_751 : decode cL_law 751 = .ok (.iconst 2, 1) := by decide +kernel
theorem dL_law_752 : decode cL_law 752 = .ok (.iadd, 1) := by decide +kernel
theorem dL_law_753 : decode cL_law 753 = .ok (.iaload, 1) := by decide +kernel
theorem dL_law_754 : decode cL_law 754 = .ok (.aload_n 3, 1) := by decide +kernel
theorem dL_law_755 : decode cL_law 755 = .ok (.invokestatic 139, 3) := by decide +kernel
theorem dL_law_758 : decode cL_law 758 = .ok (.istore 5, 2) := by decide +kernel
theorem dL_law_760 : decode cL_law 760 = .ok (.aload_n 2, 1) := by decide +kernel
theorem dL_law_761 : decode cL_law 761 = .ok (.aload_n 0, 1) := by decide +kernel
theorem dL_law_762 : decode cL_law 762 = .ok (.iload 4, 2) := by decide +kernel
theorem dL_law_764 : decode cL_law 764 = .ok (.iconst 1, 1) := by decide +kernel
theorem dL_law_765 : decode cL_law 765 = .ok (.iadd, 1) := by decide +kernel
theorem dL_law_766 : decode cL_law 766 = .ok (.iaload, 1) := by decide +kernel
theorem dL_law_767 : decode cL_law 767 = .ok (.aload_n 0, 1) := by decide +kernel
theorem dL_law_768 : decode cL_law 768 = .ok (.iload 4, 2) := by decide +kernel
theorem dL_law_770 : decode cL_law 770 = .ok (.iconst 2, 1) := by decide +kernel
theorem dL_law_771 : decode cL_law 771 = .ok (.iadd, 1) := by decide +kernel
theorem dL_law_772 : decode cL_law 772 = .ok (.iaload, 1) := by decide +kernel
theorem dL_law_773 : decode cL_law 773 = .ok (.invokevirtual 141, 3) := by decide +kernel
theorem dL_law_776 : decode cL_law 776 = .ok (.istore 6, 2) := by decide +kernel
theorem dL_law_778 : decode cL_law 778 = .ok (.aload_n 2, 1) := by decide +kernel
theorem dL_law_779 : decode cL_law 779 = .ok (.invokevirtual 101, 3) := by decide +kernel
theorem dL_law_782 : decode cL_law 782 = .ok (.iload 5, 2) := by decide +kernel
theorem dL_law_784 : decode cL_law 784 = .ok (.if_icmp .eq 5, 3) := by decide +kernel
theorem dL_law_787 : decode cL_law 787 = .ok (.iconst 0, 1) := by decide +kernel
theorem dL_law_788 : decode cL_law 788 = .ok (.ireturn, 1) := by decide +kernel
theorem dL_law_789 : decode cL_law 789 = .ok (.iload 5, 2) := by decide +kernel
theorem dL_law_791 : decode cL_law 791 = .ok (.ifCond .ne 15, 3) := by decide +kernel
theorem dL_law_794 : decode cL_law 794 = .ok (.aload_n 3, 1) := by decide +kernel
theorem dL_law_795 : decode cL_law 795 = .ok (.iconst 0, 1) := by decide +kernel
theorem dL_law_796 : decode cL_law 796 = .ok (.laload, 1) := by decide +kernel
theorem dL_law_797 : decode cL_law 797 = .ok (.iload 6, 2) := by decide +kernel
theorem dL_law_799 : decode cL_law 799 = .ok (.i2l, 1) := by decide +kernel
theorem dL_law_800 : decode cL_law 800 = .ok (.lcmp, 1) := by decide +kernel
theorem dL_law_801 : decode cL_law 801 = .ok (.ifCond .eq 5, 3) := by decide +kernel
theorem dL_law_804 : decode cL_law 804 = .ok (.iconst 0, 1) := by decide +kernel
theorem dL_law_805 : decode cL_law 805 = .ok (.ireturn, 1) := by decide +kernel
theorem dL_law_806 : decode cL_law 806 = .ok (.goto 898, 3) := by decide +kernel
theorem dL_law_809 : decode cL_law 809 = .ok (.aload_n 1, 1) := by decide +kernel
theorem dL_law_810 : decode cL_law 810 = .ok (.aload_n 0, 1) := by decide +kernel
theorem dL_law_811 : decode cL_law 811 = .ok (.iload 4, 2) := by decide +kernel
theorem dL_law_813 : decode cL_law 813 = .ok (.iconst 1, 1) := by decide +kernel
theorem dL_law_814 : decode cL_law 814 = .ok (.iadd, 1) := by decide +kernel
theorem dL_law_815 : decode cL_law 815 = .ok (.iaload, 1) := by decide +kernel
theorem dL_law_816 : decode cL_law 816 = .ok (.aload_n 0, 1) := by decide +kernel
theorem dL_law_817 : decode cL_law 817 = .ok (.iload 4, 2) := by decide +kernel
theorem dL_law_819 : decode cL_law 819 = .ok (.iconst 2, 1) := by decide +kernel
theorem dL_law_820 : decode cL_law 820 = .ok (.iadd, 1) := by decide +kernel
theorem dL_law_821 : decode cL_law 821 = .ok (.iaload, 1) := by decide +kernel
theorem dL_law_822 : decode cL_law 822 = .ok (.aload_n 0, 1) := by decide +kernel
theorem dL_law_823 : decode cL_law 823 = .ok (.iload 4, 2) := by decide +kernel
theorem dL_law_825 : decode cL_law 825 = .ok (.iconst 3, 1) := by decide +kernel
theorem dL_law_826 : decode cL_law 826 = .ok (.iadd, 1) := by decide +kernel
theorem dL_law_827 : decode cL_law 827 = .ok (.iaload, 1) := by decide +kernel
theorem dL_law_828 : decode cL_law 828 = .ok (.aload_n 0, 1) := by decide +kernel
theorem dL_law_829 : decode cL_law 829 = .ok (.iload 4, 2) := by decide +kernel
theorem dL_law_831 : decode cL_law 831 = .ok (.iconst 4, 1) := by decide +kernel
theorem dL_law_832 : decode cL_law 832 = .ok (.iadd, 1) := by decide +kernel
theorem dL_law_833 : decode cL_law 833 = .ok (.iaload, 1) := by decide +kernel
theorem dL_law_834 : decode cL_law 834 = .ok (.aload_n 3, 1) := by decide +kernel
theorem dL_law_835 : decode cL_law 835 = .ok (.invokestatic 142, 3) := by decide +kernel
theorem dL_law_838 : decode cL_law 838 = .ok (.istore 5, 2) := by decide +kernel
theorem dL_law_840 : decode cL_law 840 = .ok (.aload_n 2, 1) := by decide +kernel
theorem dL_law_841 : decode cL_law 841 = .ok (.aload_n 0, 1) := by decide +kernel
theorem dL_law_842 : decode cL_law 842 = .ok (.iload 4, 2) := by decide +kernel
theorem dL_law_844 : decode cL_law 844 = .ok (.iconst 1, 1) := by decide +kernel
theorem dL_law_845 : decode cL_law 845 = .ok (.iadd, 1) := by decide +kernel
theorem dL_law_846 : decode cL_law 846 = .ok (.iaload, 1) := by decide +kernel
theorem dL_law_847 : decode cL_law 847 = .ok (.aload_n 0, 1) := by decide +kernel
theorem dL_law_848 : decode cL_law 848 = .ok (.iload 4, 2) := by decide +kernel
theorem dL_law_850 : decode cL_law 850 = .ok (.iconst 2, 1) := by decide +kernel
theorem dL_law_851 : decode cL_law 851 = .ok (.iadd, 1) := by decide +kernel
theorem dL_law_852 : decode cL_law 852 = .ok (.iaload, 1) := by decide +kernel
theorem dL_law_853 : decode cL_law 853 = .ok (.aload_n 0, 1) := by decide +kernel
theorem dL_law_854 : decode cL_law 854 = .ok (.iload 4, 2) := by decide +kernel
theorem dL_law_856 : decode cL_law 856 = .ok (.iconst 3, 1) := by decide +kernel
theorem dL_law_857 : decode cL_law 857 = .ok (.iadd, 1) := by decide +kernel
theorem dL_law_858 : decode cL_law 858 = .ok (.iaload, 1) := by decide +kernel
theorem dL_law_859 : decode cL_law 859 = .ok (.aload_n 0, 1) := by decide +kernel
theorem dL_law_860 : decode cL_law 860 = .ok (.iload 4, 2) := by decide +kernel
theorem dL_law_862 : decode cL_law 862 = .ok (.iconst 4, 1) := by decide +kernel
theorem dL_law_863 : decode cL_law 863 = .ok (.iadd, 1) := by decide +kernel
theorem dL_law_864 : decode cL_law 864 = .ok (.iaload, 1) := by decide +kernel
theorem dL_law_865 : decode cL_law 865 = .ok (.invokevirtual 145, 3) := by decide +kernel
theorem dL_law_868 : decode cL_law 868 = .ok (.istore 6, 2) := by decide +kernel
theorem dL_law_870 : decode cL_law 870 = .ok (.aload_n 2, 1) := by decide +kernel
theorem dL_law_871 : decode cL_law 871 = .ok (.invokevirtual 101, 3) := by decide +kernel
theorem dL_law_874 : decode cL_law 874 = .ok (.iload 5, 2) := by decide +kernel
theorem dL_law_876 : decode cL_law 876 = .ok (.if_icmp .eq 5, 3) := by decide +kernel
theorem dL_law_879 : decode cL_law 879 = .ok (.iconst 0, 1) := by decide +kernel
theorem dL_law_880 : decode cL_law 880 = .ok (.ireturn, 1) := by decide +kernel
theorem dL_law_881 : decode cL_law 881 = .ok (.iload 5, 2) := by decide +kernel
theorem dL_law_883 : decode cL_law 883 = .ok (.ifCond .ne 15, 3) := by decide +kernel
theorem dL_law_886 : decode cL_law 886 = .ok (.aload_n 3, 1) := by decide +kernel
theorem dL_law_887 : decode cL_law 887 = .ok (.iconst 0, 1) := by decide +kernel
theorem dL_law_888 : decode cL_law 888 = .ok (.laload, 1) := by decide +kernel
theorem dL_law_889 : decode cL_law 889 = .ok (.iload 6, 2) := by decide +kernel
theorem dL_law_891 : decode cL_law 891 = .ok (.i2l, 1) := by decide +kernel
theorem dL_law_892 : decode cL_law 892 = .ok (.lcmp, 1) := by decide +kernel
theorem dL_law_893 : decode cL_law 893 = .ok (.ifCond .eq 5, 3) := by decide +kernel
theorem dL_law_896 : decode cL_law 896 = .ok (.iconst 0, 1) := by decide +kernel
theorem dL_law_897 : decode cL_law 897 = .ok (.ireturn, 1) := by decide +kernel
theorem dL_law_898 : decode cL_law 898 = .ok (.goto 806, 3) := by decide +kernel
theorem dL_law_901 : decode cL_law 901 = .ok (.aload_n 1, 1) := by decide +kernel
theorem dL_law_902 : decode cL_law 902 = .ok (.aload_n 0, 1) := by decide +kernel
theorem dL_law_903 : decode cL_law 903 = .ok (.iload 4, 2) := by decide +kernel
theorem dL_law_905 : decode cL_law 905 = .ok (.iconst 1, 1) := by decide +kernel
theorem dL_law_906 : decode cL_law 906 = .ok (.iadd, 1) := by decide +kernel
theorem dL_law_907 : decode cL_law 907 = .ok (.iaload, 1) := by decide +kernel
theorem dL_law_908 : decode cL_law 908 = .ok (.aload_n 3, 1) := by decide +kernel
theorem dL_law_909 : decode cL_law 909 = .ok (.invokestatic 146, 3) := by decide +kernel
theorem dL_law_912 : decode cL_law 912 = .ok (.istore 5, 2) := by decide +kernel
theorem dL_law_914 : decode cL_law 914 = .ok (.aload_n 2, 1) := by decide +kernel
theorem dL_law_915 : decode cL_law 915 = .ok (.aload_n 0, 1) := by decide +kernel
theorem dL_law_916 : decode cL_law 916 = .ok (.iload 4, 2) := by decide +kernel
theorem dL_law_918 : decode cL_law 918 = .ok (.iconst 1, 1) := by decide +kernel
theorem dL_law_919 : decode cL_law 919 = .ok (.iadd, 1) := by decide +kernel
theorem dL_law_920 : decode cL_law 920 = .ok (.iaload, 1) := by decide +kernel
theorem dL_law_921 : decode cL_law 921 = .ok (.invokevirtual 148, 3) := by decide +kernel
theorem dL_law_924 : decode cL_law 924 = .ok (.istore 6, 2) := by decide +kernel
theorem dL_law_926 : decode cL_law 926 = .ok (.aload_n 2, 1) := by decide +kernel
theorem dL_law_927 : decode cL_law 927 = .ok (.invokevirtual 101, 3) := by decide +kernel
theorem dL_law_930 : decode cL_law 930 = .ok (.iload 5, 2) := by decide +kernel
theorem dL_law_932 : decode cL_law 932 = .ok (.if_icmp .eq 5, 3) := by decide +kernel
theorem dL_law_935 : decode cL_law 935 = .ok (.iconst 0, 1) := by decide +kernel
theorem dL_law_936 : decode cL_law 936 = .ok (.ireturn, 1) := by decide +kernel
theorem dL_law_937 : decode cL_law 937 = .ok (.iload 5, 2) := by decide +kernel
theorem dL_law_939 : decode cL_law 939 = .ok (.ifCond .ne 15, 3) := by decide +kernel
theorem dL_law_942 : decode cL_law 942 = .ok (.aload_n 3, 1) := by decide +kernel
theorem dL_law_943 : decode cL_law 943 = .ok (.iconst 0, 1) := by decide +kernel
theorem dL_law_944 : decode cL_law 944 = .ok (.laload, 1) := by decide +kernel
theorem dL_law_945 : decode cL_law 945 = .ok (.iload 6, 2) := by decide +kernel
theorem dL_law_947 : decode cL_law 947 = .ok (.i2l, 1) := by decide +kernel
theorem dL_law_948 : decode cL_law 948 = .ok (.lcmp, 1) := by decide +kernel
theorem dL_law_949 : decode cL_law 949 = .ok (.ifCond .eq 5, 3) := by decide +kernel
theorem dL_law_952 : decode cL_law 952 = .ok (.iconst 0, 1) := by decide +kernel
theorem dL_law_953 : decode cL_law 953 = .ok (.ireturn, 1) := by decide +kernel
theorem dL_law_954 : decode cL_law 954 = .ok (.goto 750, 3) := by decide +kernel
theorem dL_law_957 : decode cL_law 957 = .ok (.aload_n 1, 1) := by decide +kernel
theorem dL_law_958 : decode cL_law 958 = .ok (.aload_n 0, 1) := by decide +kernel
theorem dL_law_959 : decode cL_law 959 = .ok (.iload 4, 2) := by decide +kernel
theorem dL_law_961 : decode cL_law 961 = .ok (.iconst 1, 1) := by decide +kernel
theorem dL_law_962 : decode cL_law 962 = .ok (.iadd, 1) := by decide +kernel
theorem dL_law_963 : decode cL_law 963 = .ok (.iaload, 1) := by decide +kernel
theorem dL_law_964 : decode cL_law 964 = .ok (.aload_n 0, 1) := by decide +kernel
theorem dL_law_965 : decode cL_law 965 = .ok (.iload 4, 2) := by decide +kernel
theorem dL_law_967 : decode cL_law 967 = .ok (.iconst 2, 1) := by decide +kernel
theorem dL_law_968 : decode cL_law 968 = .ok (.iadd, 1) := by decide +kernel
theorem dL_law_969 : decode cL_law 969 = .ok (.iaload, 1) := by decide +kernel
theorem dL_law_970 : decode cL_law 970 = .ok (.aload_n 3, 1) := by decide +kernel
theorem dL_law_971 : decode cL_law 971 = .ok (.invokestatic 149, 3) := by decide +kernel
theorem dL_law_974 : decode cL_law 974 = .ok (.istore 5, 2) := by decide +kernel
theorem dL_law_976 : decode cL_law 976 = .ok (.aload_n 2, 1) := by decide +kernel
theorem dL_law_977 : decode cL_law 977 = .ok (.aload_n 0, 1) := by decide +kernel
theorem dL_law_978 : decode cL_law 978 = .ok (.iload 4, 2) := by decide +kernel
theorem dL_law_980 : decode cL_law 980 = .ok (.iconst 1, 1) := by decide +kernel
theorem dL_law_981 : decode cL_law 981 = .ok (.iadd, 1) := by decide +kernel
theorem dL_law_982 : decode cL_law 982 = .ok (.iaload, 1) := by decide +kernel
theorem dL_law_983 : decode cL_law 983 = .ok (.aload_n 0, 1) := by decide +kernel
theorem dL_law_984 : decode cL_law 984 = .ok (.iload 4, 2) := by decide +kernel
theorem dL_law_986 : decode cL_law 986 = .ok (.iconst 2, 1) := by decide +kernel
theorem dL_law_987 : decode cL_law 987 = .ok (.iadd, 1) := by decide +kernel
theorem dL_law_988 : decode cL_law 988 = .ok (.iaload, 1) := by decide +kernel
theorem dL_law_989 : decode cL_law 989 = .ok (.invokevirtual 151, 3) := by decide +kernel
theorem dL_law_992 : decode cL_law 992 = .ok (.istore 6, 2) := by decide +kernel
theorem dL_law_994 : decode cL_law 994 = .ok (.aload_n 2, 1) := by decide +kernel
theorem dL_law_995 : decode cL_law 995 = .ok (.invokevirtual 101, 3) := by decide +kernel
theorem dL_law_998 : decode cL_law 998 = .ok (.iload 5, 2) := by decide +kernel
theorem dL_law_1000 : decode cL_law 1000 = .ok (.if_icmp .eq 5, 3) := by decide +kernel
theorem dL_law_1003 : decode cL_law 1003 = .ok (.iconst 0, 1) := by decide +kernel
theorem dL_law_1004 : decode cL_law 1004 = .ok (.ireturn, 1) := by decide +kernel
theorem dL_law_1005 : decode cL_law 1005 = .ok (.iload 5, 2) := by decide +kernel
theorem dL_law_1007 : decode cL_law 1007 = .ok (.ifCond .ne 15, 3) := by decide +kernel
theorem dL_law_1010 : decode cL_law 1010 = .ok (.aload_n 3, 1) := by decide +kernel
theorem dL_law_1011 : decode cL_law 1011 = .ok (.iconst 0, 1) := by decide +kernel
theorem dL_law_1012 : decode cL_law 1012 = .ok (.laload, 1) := by decide +kernel
theorem dL_law_1013 : decode cL_law 1013 = .ok (.iload 6, 2) := by decide +kernel
theorem dL_law_1015 : decode cL_law 1015 = .ok (.i2l, 1) := by decide +kernel
theorem dL_law_1016 : decode cL_law 1016 = .ok (.lcmp, 1) := by decide +kernel
theorem dL_law_1017 : decode cL_law 1017 = .ok (.ifCond .eq 5, 3) := by decide +kernel
theorem dL_law_1020 : decode cL_law 1020 = .ok (.iconst 0, 1) := by decide +kernel
theorem dL_law_1021 : decode cL_law 1021 = .ok (.ireturn, 1) := by decide +kernel
theorem dL_law_1022 : decode cL_law 1022 = .ok (.goto 682, 3) := by decide +kernel
theorem dL_law_1025 : decode cL_law 1025 = .ok (.aload_n 1, 1) := by decide +kernel
theorem dL_law_1026 : decode cL_law 1026 = .ok (.aload_n 0, 1) := by decide +kernel
theorem dL_law_1027 : decode cL_law 1027 = .ok (.iload 4, 2) := by decide +kernel
theorem dL_law_1029 : decode cL_law 1029 = .ok (.iconst 1, 1) := by decide +kernel
theorem dL_law_1030 : decode cL_law 1030 = .ok (.iadd, 1) := by decide +kernel
theorem dL_law_1031 : decode cL_law 1031 = .ok (.iaload, 1) := by decide +kernel
theorem dL_law_1032 : decode cL_law 1032 = .ok (.aload_n 0, 1) := by decide +kernel
theorem dL_law_1033 : decode cL_law 1033 = .ok (.iload 4, 2) := by decide +kernel
theorem dL_law_1035 : decode cL_law 1035 = .ok (.iconst 2, 1) := by decide +kernel
theorem dL_law_1036 : decode cL_law 1036 = .ok (.iadd, 1) := by decide +kernel
theorem dL_law_1037 : decode cL_law 1037 = .ok (.iaload, 1) := by decide +kernel
theorem dL_law_1038 : decode cL_law 1038 = .ok (.aload_n 3, 1) := by decide +kernel
theorem dL_law_1039 : decode cL_law 1039 = .ok (.invokestatic 152, 3) := by decide +kernel
theorem dL_law_1042 : decode cL_law 1042 = .ok (.istore 5, 2) := by decide +kernel
theorem dL_law_1044 : decode cL_law 1044 = .ok (.aload_n 2, 1) := by decide +kernel
theorem dL_law_1045 : decode cL_law 1045 = .ok (.aload_n 0, 1) := by decide +kernel
theorem dL_law_1046 : decode cL_law 1046 = .ok (.iload 4, 2) := by decide +kernel
theorem dL_law_1048 : decode cL_law 1048 = .ok (.iconst 1, 1) := by decide +kernel
theorem dL_law_1049 : decode cL_law 1049 = .ok (.iadd, 1) := by decide +kernel
theorem dL_law_1050 : decode cL_law 1050 = .ok (.iaload, 1) := by decide +kernel
theorem dL_law_1051 : decode cL_law 1051 = .ok (.aload_n 0, 1) := by decide +kernel
theorem dL_law_1052 : decode cL_law 1052 = .ok (.iload 4, 2) := by decide +kernel
theorem dL_law_1054 : decode cL_law 1054 = .ok (.iconst 2, 1) := by decide +kernel
theorem dL_law_1055 : decode cL_law 1055 = .ok (.iadd, 1) := by decide +kernel
theorem dL_law_1056 : decode cL_law 1056 = .ok (.iaload, 1) := by decide +kernel
theorem dL_law_1057 : decode cL_law 1057 = .ok (.invokevirtual 154, 3) := by decide +kernel
theorem dL_law_1060 : decode cL_law 1060 = .ok (.istore 6, 2) := by decide +kernel
theorem dL_law_1062 : decode cL_law 1062 = .ok (.aload_n 2, 1) := by decide +kernel
theorem dL_law_1063 : decode cL_law 1063 = .ok (.invokevirtual 101, 3) := by decide +kernel
theorem dL_law_1066 : decode cL_law 1066 = .ok (.iload 5, 2) := by decide +kernel
theorem dL_law_1068 : decode cL_law 1068 = .ok (.if_icmp .eq 5, 3) := by decide +kernel
theorem dL_law_1071 : decode cL_law 1071 = .ok (.iconst 0, 1) := by decide +kernel
theorem dL_law_1072 : decode cL_law 1072 = .ok (.ireturn, 1) := by decide +kernel
theorem dL_law_1073 : decode cL_law 1073 = .ok (.iload 5, 2) := by decide +kernel
theorem dL_law_1075 : decode cL_law 1075 = .ok (.ifCond .ne 15, 3) := by decide +kernel
theorem dL_law_1078 : decode cL_law 1078 = .ok (.aload_n 3, 1) := by decide +kernel
theorem dL_law_1079 : decode cL_law 1079 = .ok (.iconst 0, 1) := by decide +kernel
theorem dL_law_1080 : decode cL_law 1080 = .ok (.laload, 1) := by decide +kernel
theorem dL_law_1081 : decode cL_law 1081 = .ok (.iload 6, 2) := by decide +kernel
theorem dL_law_1083 : decode cL_law 1083 = .ok (.i2l, 1) := by decide +kernel
theorem dL_law_1084 : decode cL_law 1084 = .ok (.lcmp, 1) := by decide +kernel
theorem dL_law_1085 : decode cL_law 1085 = .ok (.ifCond .eq 5, 3) := by decide +kernel
theorem dL_law_1088 : decode cL_law 1088 = .ok (.iconst 0, 1) := by decide +kernel
theorem dL_law_1089 : decode cL_law 1089 = .ok (.ireturn, 1) := by decide +kernel
theorem dL_law_1090 : decode cL_law 1090 = .ok (.goto 614, 3) := by decide +kernel
theorem dL_law_1093 : decode cL_law 1093 = .ok (.aload_n 1, 1) := by decide +kernel
theorem dL_law_1094 : decode cL_law 1094 = .ok (.invokevirtual 155, 3) := by decide +kernel
theorem dL_law_1097 : decode cL_law 1097 = .ok (.aload_n 2, 1) := by decide +kernel
theorem dL_law_1098 : decode cL_law 1098 = .ok (.invokevirtual 158, 3) := by decide +kernel
theorem dL_law_1101 : decode cL_law 1101 = .ok (.if_icmp .eq 603, 3) := by decide +kernel
theorem dL_law_1104 : decode cL_law 1104 = .ok (.iconst 0, 1) := by decide +kernel
theorem dL_law_1105 : decode cL_law 1105 = .ok (.ireturn, 1) := by decide +kernel
theorem dL_law_1106 : decode cL_law 1106 = .ok (.aload_n 1, 1) := by decide +kernel
theorem dL_law_1107 : decode cL_law 1107 = .ok (.aload_n 0, 1) := by decide +kernel
theorem dL_law_1108 : decode cL_law 1108 = .ok (.iload 4, 2) := by decide +kernel
theorem dL_law_1110 : decode cL_law 1110 = .ok (.iconst 1, 1) := by decide +kernel
theorem dL_law_1111 : decode cL_law 1111 = .ok (.iadd, 1) := by decide +kernel
theorem dL_law_1112 : decode cL_law 1112 = .ok (.iaload, 1) := by decide +kernel
theorem dL_law_1113 : decode cL_law 1113 = .ok (.aload_n 3, 1) := by decide +kernel
theorem dL_law_1114 : decode cL_law 1114 = .ok (.invokestatic 159, 3) := by decide +kernel
theorem dL_law_1117 : decode cL_law 1117 = .ok (.istore 5, 2) := by decide +kernel
theorem dL_law_1119 : decode cL_law 1119 = .ok (.aload_n 2, 1) := by decide +kernel
theorem dL_law_1120 : decode cL_law 1120 = .ok (.aload_n 0, 1) := by decide +kernel
theorem dL_law_1121 : decode cL_law 1121 = .ok (.iload 4, 2) := by decide +kernel
theorem dL_law_1123 : decode cL_law 1123 = .ok (.iconst 1, 1) := by decide +kernel
theorem dL_law_1124 : decode cL_law 1124 = .ok (.iadd, 1) := by decide +kernel
theorem dL_law_1125 : decode cL_law 1125 = .ok (.iaload, 1) := by decide +kernel
theorem dL_law_1126 : decode cL_law 1126 = .ok (.invokevirtual 161, 3) := by decide +kernel
theorem dL_law_1129 : decode cL_law 1129 = .ok (.istore 6, 2) := by decide +kernel
theorem dL_law_1131 : decode cL_law 1131 = .ok (.aload_n 2, 1) := by decide +kernel
theorem dL_law_1132 : decode cL_law 1132 = .ok (.invokevirtual 101, 3) := by decide +kernel
theorem dL_law_1135 : decode cL_law 1135 = .ok (.iload 5, 2) := by decide +kernel
theorem dL_law_1137 : decode cL_law 1137 = .ok (.if_icmp .eq 5, 3) := by decide +kernel
theorem dL_law_1140 : decode cL_law 1140 = .ok (.iconst 0, 1) := by decide +kernel
theorem dL_law_1141 : decode cL_law 1141 = .ok (.ireturn, 1) := by decide +kernel
theorem dL_law_1142 : decode cL_law 1142 = .ok (.iload 5, 2) := by decide +kernel
theorem dL_law_1144 : decode cL_law 1144 = .ok (.ifCond .ne 15, 3) := by decide +kernel
theorem dL_law_1147 : decode cL_law 1147 = .ok (.aload_n 3, 1) := by decide +kernel
theorem dL_law_1148 : decode cL_law 1148 = .ok (.iconst 0, 1) := by decide +kernel
theorem dL_law_1149 : decode cL_law 1149 = .ok (.laload, 1) := by decide +kernel
theorem dL_law_1150 : decode cL_law 1150 = .ok (.iload 6, 2) := by decide +kernel
theorem dL_law_1152 : decode cL_law 1152 = .ok (.i2l, 1) := by decide +kernel
theorem dL_law_1153 : decode cL_law 1153 = .ok (.lcmp, 1) := by decide +kernel
theorem dL_law_1154 : decode cL_law 1154 = .ok (.ifCond .eq 5, 3) := by decide +kernel
theorem dL_law_1157 : decode cL_law 1157 = .ok (.iconst 0, 1) := by decide +kernel
theorem dL_law_1158 : decode cL_law 1158 = .ok (.ireturn, 1) := by decide +kernel
theorem dL_law_1159 : decode cL_law 1159 = .ok (.goto 545, 3) := by decide +kernel
theorem dL_law_1162 : decode cL_law 1162 = .ok (.aload_n 1, 1) := by decide +kernel
theorem dL_law_1163 : decode cL_law 1163 = .ok (.aload_n 0, 1) := by decide +kernel
theorem dL_law_1164 : decode cL_law 1164 = .ok (.iload 4, 2) := by decide +kernel
theorem dL_law_1166 : decode cL_law 1166 = .ok (.iconst 1, 1) := by decide +kernel
theorem dL_law_1167 : decode cL_law 1167 = .ok (.iadd, 1) := by decide +kernel
theorem dL_law_1168 : decode cL_law 1168 = .ok (.iaload, 1) := by decide +kernel
theorem dL_law_1169 : decode cL_law 1169 = .ok (.aload_n 3, 1) := by decide +kernel
theorem dL_law_1170 : decode cL_law 1170 = .ok (.invokestatic 162, 3) := by decide +kernel
theorem dL_law_1173 : decode cL_law 1173 = .ok (.istore 5, 2) := by decide +kernel
theorem dL_law_1175 : decode cL_law 1175 = .ok (.aload_n 2, 1) := by decide +kernel
theorem dL_law_1176 : decode cL_law 1176 = .ok (.aload_n 0, 1) := by decide +kernel
theorem dL_law_1177 : decode cL_law 1177 = .ok (.iload 4, 2) := by decide +kernel
theorem dL_law_1179 : decode cL_law 1179 = .ok (.iconst 1, 1) := by decide +kernel
theorem dL_law_1180 : decode cL_law 1180 = .ok (.iadd, 1) := by decide +kernel
theorem dL_law_1181 : decode cL_law 1181 = .ok (.iaload, 1) := by decide +kernel
theorem dL_law_1182 : decode cL_law 1182 = .ok (.invokevirtual 164, 3) := by decide +kernel
theorem dL_law_1185 : decode cL_law 1185 = .ok (.istore 6, 2) := by decide +kernel
theorem dL_law_1187 : decode cL_law 1187 = .ok (.aload_n 2, 1) := by decide +kernel
theorem dL_law_1188 : decode cL_law 1188 = .ok (.invokevirtual 101, 3) := by decide +kernel
theorem dL_law_1191 : decode cL_law 1191 = .ok (.iload 5, 2) := by decide +kernel
theorem dL_law_1193 : decode cL_law 1193 = .ok (.if_icmp .eq 5, 3) := by decide +kernel
theorem dL_law_1196 : decode cL_law 1196 = .ok (.iconst 0, 1) := by decide +kernel
theorem dL_law_1197 : decode cL_law 1197 = .ok (.ireturn, 1) := by decide +kernel
theorem dL_law_1198 : decode cL_law 1198 = .ok (.iload 5, 2) := by decide +kernel
theorem dL_law_1200 : decode cL_law 1200 = .ok (.ifCond .ne 15, 3) := by decide +kernel
theorem dL_law_1203 : decode cL_law 1203 = .ok (.aload_n 3, 1) := by decide +kernel
theorem dL_law_1204 : decode cL_law 1204 = .ok (.iconst 0, 1) := by decide +kernel
theorem dL_law_1205 : decode cL_law 1205 = .ok (.laload, 1) := by decide +kernel
theorem dL_law_1206 : decode cL_law 1206 = .ok (.iload 6, 2) := by decide +kernel
theorem dL_law_1208 : decode cL_law 1208 = .ok (.i2l, 1) := by decide +kernel
theorem dL_law_1209 : decode cL_law 1209 = .ok (.lcmp, 1) := by decide +kernel
theorem dL_law_1210 : decode cL_law 1210 = .ok (.ifCond .eq 5, 3) := by decide +kernel
theorem dL_law_1213 : decode cL_law 1213 = .ok (.iconst 0, 1) := by decide +kernel
theorem dL_law_1214 : decode cL_law 1214 = .ok (.ireturn, 1) := by decide +kernel
theorem dL_law_1215 : decode cL_law 1215 = .ok (.goto 489, 3) := by decide +kernel
theorem dL_law_1218 : decode cL_law 1218 = .ok (.aload_n 1, 1) := by decide +kernel
theorem dL_law_1219 : decode cL_law 1219 = .ok (.aload_n 0, 1) := by decide +kernel
theorem dL_law_1220 : decode cL_law 1220 = .ok (.iload 4, 2) := by decide +kernel
theorem dL_law_1222 : decode cL_law 1222 = .ok (.iconst 1, 1) := by decide +kernel
theorem dL_law_1223 : decode cL_law 1223 = .ok (.iadd, 1) := by decide +kernel
theorem dL_law_1224 : decode cL_law 1224 = .ok (.iaload, 1) := by decide +kernel
theorem dL_law_1225 : decode cL_law 1225 = .ok (.aload_n 3, 1) := by decide +kernel
theorem dL_law_1226 : decode cL_law 1226 = .ok (.invokestatic 165, 3) := by decide +kernel
theorem dL_law_1229 : decode cL_law 1229 = .ok (.istore 5, 2) := by decide +kernel
theorem dL_law_1231 : decode cL_law 1231 = .ok (.aload_n 2, 1) := by decide +kernel
theorem dL_law_1232 : decode cL_law 1232 = .ok (.aload_n 0, 1) := by decide +kernel
theorem dL_law_1233 : decode cL_law 1233 = .ok (.iload 4, 2) := by decide +kernel
theorem dL_law_1235 : decode cL_law 1235 = .ok (.iconst 1, 1) := by decide +kernel
theorem dL_law_1236 : decode cL_law 1236 = .ok (.iadd, 1) := by decide +kernel
theorem dL_law_1237 : decode cL_law 1237 = .ok (.iaload, 1) := by decide +kernel
theorem dL_law_1238 : decode cL_law 1238 = .ok (.invokevirtual 167, 3) := by decide +kernel
theorem dL_law_1241 : decode cL_law 1241 = .ok (.istore 6, 2) := by decide +kernel
theorem dL_law_1243 : decode cL_law 1243 = .ok (.aload_n 2, 1) := by decide +kernel
theorem dL_law_1244 : decode cL_law 1244 = .ok (.invokevirtual 101, 3) := by decide +kernel
theorem dL_law_1247 : decode cL_law 1247 = .ok (.iload 5, 2) := by decide +kernel
theorem dL_law_1249 : decode cL_law 1249 = .ok (.if_icmp .eq 5, 3) := by decide +kernel
theorem dL_law_1252 : decode cL_law 1252 = .ok (.iconst 0, 1) := by decide +kernel
theorem dL_law_1253 : decode cL_law 1253 = .ok (.ireturn, 1) := by decide +kernel
theorem dL_law_1254 : decode cL_law 1254 = .ok (.iload 5, 2) := by decide +kernel
theorem dL_law_1256 : decode cL_law 1256 = .ok (.ifCond .ne 15, 3) := by decide +kernel
theorem dL_law_1259 : decode cL_law 1259 = .ok (.aload_n 3, 1) := by decide +kernel
theorem dL_law_1260 : decode cL_law 1260 = .ok (.iconst 0, 1) := by decide +kernel
theorem dL_law_1261 : decode cL_law 1261 = .ok (.laload, 1) := by decide +kernel
theorem dL_law_1262 : decode cL_law 1262 = .ok (.iload 6, 2) := by decide +kernel
theorem dL_law_1264 : decode cL_law 1264 = .ok (.i2l, 1) := by decide +kernel
theorem dL_law_1265 : decode cL_law 1265 = .ok (.lcmp, 1) := by decide +kernel
theorem dL_law_1266 : decode cL_law 1266 = .ok (.ifCond .eq 5, 3) := by decide +kernel
theorem dL_law_1269 : decode cL_law 1269 = .ok (.iconst 0, 1) := by decide +kernel
theorem dL_law_1270 : decode cL_law 1270 = .ok (.ireturn, 1) := by decide +kernel
theorem dL_law_1271 : decode cL_law 1271 = .ok (.goto 433, 3) := by decide +kernel
theorem dL_law_1274 : decode cL_law 1274 = .ok (.aload_n 1, 1) := by decide +kernel
theorem dL_law_1275 : decode cL_law 1275 = .ok (.aload_n 0, 1) := by decide +kernel
theorem dL_law_1276 : decode cL_law 1276 = .ok (.iload 4, 2) := by decide +kernel
theorem dL_law_1278 : decode cL_law 1278 = .ok (.iconst 1, 1) := by decide +kernel
theorem dL_law_1279 : decode cL_law 1279 = .ok (.iadd, 1) := by decide +kernel
theorem dL_law_1280 : decode cL_law 1280 = .ok (.iaload, 1) := by decide +kernel
theorem dL_law_1281 : decode cL_law 1281 = .ok (.aload_n 0, 1) := by decide +kernel
theorem dL_law_1282 : decode cL_law 1282 = .ok (.iload 4, 2) := by decide +kernel
theorem dL_law_1284 : decode cL_law 1284 = .ok (.iconst 2, 1) := by decide +kernel
theorem dL_law_1285 : decode cL_law 1285 = .ok (.iadd, 1) := by decide +kernel
theorem dL_law_1286 : decode cL_law 1286 = .ok (.iaload, 1) := by decide +kernel
theorem dL_law_1287 : decode cL_law 1287 = .ok (.aload_n 3, 1) := by decide +kernel
theorem dL_law_1288 : decode cL_law 1288 = .ok (.invokestatic 168, 3) := by decide +kernel
theorem dL_law_1291 : decode cL_law 1291 = .ok (.istore 5, 2) := by decide +kernel
theorem dL_law_1293 : decode cL_law 1293 = .ok (.aload_n 2, 1) := by decide +kernel
theorem dL_law_1294 : decode cL_law 1294 = .ok (.aload_n 0, 1) := by decide +kernel
theorem dL_law_1295 : decode cL_law 1295 = .ok (.iload 4, 2) := by decide +kernel
theorem dL_law_1297 : decode cL_law 1297 = .ok (.iconst 1, 1) := by decide +kernel
theorem dL_law_1298 : decode cL_law 1298 = .ok (.iadd, 1) := by decide +kernel
theorem dL_law_1299 : decode cL_law 1299 = .ok (.iaload, 1) := by decide +kernel
theorem dL_law_1300 : decode cL_law 1300 = .ok (.aload_n 0, 1) := by decide +kernel
theorem dL_law_1301 : decode cL_law 1301 = .ok (.iload 4, 2) := by decide +kernel
theorem dL_law_1303 : decode cL_law 1303 = .ok (.iconst 2, 1) := by decide +kernel
theorem dL_law_1304 : decode cL_law 1304 = .ok (.iadd, 1) := by decide +kernel
theorem dL_law_1305 : decode cL_law 1305 = .ok (.iaload, 1) := by decide +kernel
theorem dL_law_1306 : decode cL_law 1306 = .ok (.invokevirtual 170, 3) := by decide +kernel
theorem dL_law_1309 : decode cL_law 1309 = .ok (.istore 6, 2) := by decide +kernel
theorem dL_law_1311 : decode cL_law 1311 = .ok (.aload_n 2, 1) := by decide +kernel
theorem dL_law_1312 : decode cL_law 1312 = .ok (.invokevirtual 101, 3) := by decide +kernel
theorem dL_law_1315 : decode cL_law 1315 = .ok (.iload 5, 2) := by decide +kernel
theorem dL_law_1317 : decode cL_law 1317 = .ok (.if_icmp .eq 5, 3) := by decide +kernel
theorem dL_law_1320 : decode cL_law 1320 = .ok (.iconst 0, 1) := by decide +kernel
theorem dL_law_1321 : decode cL_law 1321 = .ok (.ireturn, 1) := by decide +kernel
theorem dL_law_1322 : decode cL_law 1322 = .ok (.iload 5, 2) := by decide +kernel
theorem dL_law_1324 : decode cL_law 1324 = .ok (.ifCond .ne 15, 3) := by decide +kernel
theorem dL_law_1327 : decode cL_law 1327 = .ok (.aload_n 3, 1) := by decide +kernel
theorem dL_law_1328 : decode cL_law 1328 = .ok (.iconst 0, 1) := by decide +kernel
theorem dL_law_1329 : decode cL_law 1329 = .ok (.laload, 1) := by decide +kernel
theorem dL_law_1330 : decode cL_law 1330 = .ok (.iload 6, 2) := by decide +kernel
theorem dL_law_1332 : decode cL_law 1332 = .ok (.i2l, 1) := by decide +kernel
theorem dL_law_1333 : decode cL_law 1333 = .ok (.lcmp, 1) := by decide +kernel
theorem dL_law_1334 : decode cL_law 1334 = .ok (.ifCond .eq 5, 3) := by decide +kernel
theorem dL_law_1337 : decode cL_law 1337 = .ok (.iconst 0, 1) := by decide +kernel
theorem dL_law_1338 : decode cL_law 1338 = .ok (.ireturn, 1) := by decide +kernel
theorem dL_law_1339 : decode cL_law 1339 = .ok (.goto 365, 3) := by decide +kernel
theorem dL_law_1342 : decode cL_law 1342 = .ok (.aload_n 1, 1) := by decide +kernel
theorem dL_law_1343 : decode cL_law 1343 = .ok (.aload_n 0, 1) := by decide +kernel
theorem dL_law_1344 : decode cL_law 1344 = .ok (.iload 4, 2) := by decide +kernel
theorem dL_law_1346 : decode cL_law 1346 = .ok (.iconst 1, 1) := by decide +kernel
theorem dL_law_1347 : decode cL_law 1347 = .ok (.iadd, 1) := by decide +kernel
theorem dL_law_1348 : decode cL_law 1348 = .ok (.iaload, 1) := by decide +kernel
theorem dL_law_1349 : decode cL_law 1349 = .ok (.aload_n 3, 1) := by decide +kernel
theorem dL_law_1350 : decode cL_law 1350 = .ok (.invokestatic 171, 3) := by decide +kernel
theorem dL_law_1353 : decode cL_law 1353 = .ok (.istore 5, 2) := by decide +kernel
theorem dL_law_1355 : decode cL_law 1355 = .ok (.aload_n 2, 1) := by decide +kernel
theorem dL_law_1356 : decode cL_law 1356 = .ok (.aload_n 0, 1) := by decide +kernel
theorem dL_law_1357 : decode cL_law 1357 = .ok (.iload 4, 2) := by decide +kernel
theorem dL_law_1359 : decode cL_law 1359 = .ok (.iconst 1, 1) := by decide +kernel
theorem dL_law_1360 : decode cL_law 1360 = .ok (.iadd, 1) := by decide +kernel
theorem dL_law_1361 : decode cL_law 1361 = .ok (.iaload, 1) := by decide +kernel
theorem dL_law_1362 : decode cL_law 1362 = .ok (.invokevirtual 173, 3) := by decide +kernel
theorem dL_law_1365 : decode cL_law 1365 = .ok (.istore 6, 2) := by decide +kernel
theorem dL_law_1367 : decode cL_law 1367 = .ok (.aload_n 2, 1) := by decide +kernel
theorem dL_law_1368 : decode cL_law 1368 = .ok (.invokevirtual 101, 3) := by decide +kernel
theorem dL_law_1371 : decode cL_law 1371 = .ok (.iload 5, 2) := by decide +kernel
theorem dL_law_1373 : decode cL_law 1373 = .ok (.if_icmp .eq 5, 3) := by decide +kernel
theorem dL_law_1376 : decode cL_law 1376 = .ok (.iconst 0, 1) := by decide +kernel
theorem dL_law_1377 : decode cL_law 1377 = .ok (.ireturn, 1) := by decide +kernel
theorem dL_law_1378 : decode cL_law 1378 = .ok (.iload 5, 2) := by decide +kernel
theorem dL_law_1380 : decode cL_law 1380 = .ok (.ifCond .ne 15, 3) := by decide +kernel
theorem dL_law_1383 : decode cL_law 1383 = .ok (.aload_n 3, 1) := by decide +kernel
theorem dL_law_1384 : decode cL_law 1384 = .ok (.iconst 0, 1) := by decide +kernel
theorem dL_law_1385 : decode cL_law 1385 = .ok (.laload, 1) := by decide +kernel
theorem dL_law_1386 : decode cL_law 1386 = .ok (.iload 6, 2) := by decide +kernel
theorem dL_law_1388 : decode cL_law 1388 = .ok (.i2l, 1) := by decide +kernel
theorem dL_law_1389 : decode cL_law 1389 = .ok (.lcmp, 1) := by decide +kernel
theorem dL_law_1390 : decode cL_law 1390 = .ok (.ifCond .eq 5, 3) := by decide +kernel
theorem dL_law_1393 : decode cL_law 1393 = .ok (.iconst 0, 1) := by decide +kernel
theorem dL_law_1394 : decode cL_law 1394 = .ok (.ireturn, 1) := by decide +kernel
theorem dL_law_1395 : decode cL_law 1395 = .ok (.goto 309, 3) := by decide +kernel
theorem dL_law_1398 : decode cL_law 1398 = .ok (.aload_n 1, 1) := by decide +kernel
theorem dL_law_1399 : decode cL_law 1399 = .ok (.aload_n 0, 1) := by decide +kernel
theorem dL_law_1400 : decode cL_law 1400 = .ok (.iload 4, 2) := by decide +kernel
theorem dL_law_1402 : decode cL_law 1402 = .ok (.iconst 1, 1) := by decide +kernel
theorem dL_law_1403 : decode cL_law 1403 = .ok (.iadd, 1) := by decide +kernel
theorem dL_law_1404 : decode cL_law 1404 = .ok (.iaload, 1) := by decide +kernel
theorem dL_law_1405 : decode cL_law 1405 = .ok (.aload_n 3, 1) := by decide +kernel
theorem dL_law_1406 : decode cL_law 1406 = .ok (.invokestatic 174, 3) := by decide +kernel
theorem dL_law_1409 : decode cL_law 1409 = .ok (.istore 5, 2) := by decide +kernel
theorem dL_law_1411 : decode cL_law 1411 = .ok (.aload_n 2, 1) := by decide +kernel
theorem dL_law_1412 : decode cL_law 1412 = .ok (.aload_n 0, 1) := by decide +kernel
theorem dL_law_1413 : decode cL_law 1413 = .ok (.iload 4, 2) := by decide +kernel
theorem dL_law_1415 : decode cL_law 1415 = .ok (.iconst 1, 1) := by decide +kernel
theorem dL_law_1416 : decode cL_law 1416 = .ok (.iadd, 1) := by decide +kernel
theorem dL_law_1417 : decode cL_law 1417 = .ok (.iaload, 1) := by decide +kernel
theorem dL_law_1418 : decode cL_law 1418 = .ok (.invokevirtual 176, 3) := by decide +kernel
theorem dL_law_1421 : decode cL_law 1421 = .ok (.istore 6, 2) := by decide +kernel
theorem dL_law_1423 : decode cL_law 1423 = .ok (.aload_n 2, 1) := by decide +kernel
theorem dL_law_1424 : decode cL_law 1424 = .ok (.invokevirtual 101, 3) := by decide +kernel
theorem dL_law_1427 : decode cL_law 1427 = .ok (.iload 5, 2) := by decide +kernel
theorem dL_law_1429 : decode cL_law 1429 = .ok (.if_icmp .eq 5, 3) := by decide +kernel
theorem dL_law_1432 : decode cL_law 1432 = .ok (.iconst 0, 1) := by decide +kernel
theorem dL_law_1433 : decode cL_law 1433 = .ok (.ireturn, 1) := by decide +kernel
theorem dL_law_1434 : decode cL_law 1434 = .ok (.iload 5, 2) := by decide +kernel
theorem dL_law_1436 : decode cL_law 1436 = .ok (.ifCond .ne 15, 3) := by decide +kernel
theorem dL_law_1439 : decode cL_law 1439 = .ok (.aload_n 3, 1) := by decide +kernel
theorem dL_law_1440 : decode cL_law 1440 = .ok (.iconst 0, 1) := by decide +kernel
theorem dL_law_1441 : decode cL_law 1441 = .ok (.laload, 1) := by decide +kernel
theorem dL_law_1442 : decode cL_law 1442 = .ok (.iload 6, 2) := by decide +kernel
theorem dL_law_1444 : decode cL_law 1444 = .ok (.i2l, 1) := by decide +kernel
theorem dL_law_1445 : decode cL_law 1445 = .ok (.lcmp, 1) := by decide +kernel
theorem dL_law_1446 : decode cL_law 1446 = .ok (.ifCond .eq 5, 3) := by decide +kernel
theorem dL_law_1449 : decode cL_law 1449 = .ok (.iconst 0, 1) := by decide +kernel
theorem dL_law_1450 : decode cL_law 1450 = .ok (.ireturn, 1) := by decide +kernel
theorem dL_law_1451 : decode cL_law 1451 = .ok (.goto 253, 3) := by decide +kernel
theorem dL_law_1454 : decode cL_law 1454 = .ok (.aload_n 1, 1) := by decide +kernel
theorem dL_law_1455 : decode cL_law 1455 = .ok (.invokevirtual 177, 3) := by decide +kernel
theorem dL_law_1458 : decode cL_law 1458 = .ok (.aload_n 2, 1) := by decide +kernel
theorem dL_law_1459 : decode cL_law 1459 = .ok (.invokevirtual 180, 3) := by decide +kernel
theorem dL_law_1462 : decode cL_law 1462 = .ok (.if_icmp .eq 242, 3) := by decide +kernel
theorem dL_law_1465 : decode cL_law 1465 = .ok (.iconst 0, 1) := by decide +kernel
theorem dL_law_1466 : decode cL_law 1466 = .ok (.ireturn, 1) := by decide +kernel
theorem dL_law_1467 : decode cL_law 1467 = .ok (.aload_n 1, 1) := by decide +kernel
theorem dL_law_1468 : decode cL_law 1468 = .ok (.invokevirtual 181, 3) := by decide +kernel
theorem dL_law_1471 : decode cL_law 1471 = .ok (.aload_n 2, 1) := by decide +kernel
theorem dL_law_1472 : decode cL_law 1472 = .ok (.invokevirtual 184, 3) := by decide +kernel
theorem dL_law_1475 : decode cL_law 1475 = .ok (.if_icmp .eq 229, 3) := by decide +kernel
theorem dL_law_1478 : decode cL_law 1478 = .ok (.iconst 0, 1) := by decide +kernel
theorem dL_law_1479 : decode cL_law 1479 = .ok (.ireturn, 1) := by decide +kernel
theorem dL_law_1480 : decode cL_law 1480 = .ok (.aload_n 1, 1) := by decide +kernel
theorem dL_law_1481 : decode cL_law 1481 = .ok (.aload_n 0, 1) := by decide +kernel
theorem dL_law_1482 : decode cL_law 1482 = .ok (.iload 4, 2) := by decide +kernel
theorem dL_law_1484 : decode cL_law 1484 = .ok (.iconst 1, 1) := by decide +kernel
theorem dL_law_1485 : decode cL_law 1485 = .ok (.iadd, 1) := by decide +kernel
theorem dL_law_1486 : decode cL_law 1486 = .ok (.iaload, 1) := by decide +kernel
theorem dL_law_1487 : decode cL_law 1487 = .ok (.aload_n 3, 1) := by decide +kernel
theorem dL_law_1488 : decode cL_law 1488 = .ok (.invokestatic 185, 3) := by decide +kernel
theorem dL_law_1491 : decode cL_law 1491 = .ok (.istore 5, 2) := by decide +kernel
theorem dL_law_1493 : decode cL_law 1493 = .ok (.aload_n 2, 1) := by decide +kernel
theorem dL_law_1494 : decode cL_law 1494 = .ok (.aload_n 0, 1) := by decide +kernel
theorem dL_law_1495 : decode cL_law 1495 = .ok (.iload 4, 2) := by decide +kernel
theorem dL_law_1497 : decode cL_law 1497 = .ok (.iconst 1, 1) := by decide +kernel
theorem dL_law_1498 : decode cL_law 1498 = .ok (.iadd, 1) := by decide +kernel
theorem dL_law_1499 : decode cL_law 1499 = .ok (.iaload, 1) := by decide +kernel
theorem dL_law_1500 : decode cL_law 1500 = .ok (.invokevirtual 187, 3) := by decide +kernel
theorem dL_law_1503 : decode cL_law 1503 = .ok (.istore 6, 2) := by decide +kernel
theorem dL_law_1505 : decode cL_law 1505 = .ok (.aload_n 2, 1) := by decide +kernel
theorem dL_law_1506 : decode cL_law 1506 = .ok (.invokevirtual 101, 3) := by decide +kernel
theorem dL_law_1509 : decode cL_law 1509 = .ok (.iload 5, 2) := by decide +kernel
theorem dL_law_1511 : decode cL_law 1511 = .ok (.if_icmp .eq 5, 3) := by decide +kernel
theorem dL_law_1514 : decode cL_law 1514 = .ok (.iconst 0, 1) := by decide +kernel
theorem dL_law_1515 : decode cL_law 1515 = .ok (.ireturn, 1) := by decide +kernel
theorem dL_law_1516 : decode cL_law 1516 = .ok (.iload 5, 2) := by decide +kernel
theorem dL_law_1518 : decode cL_law 1518 = .ok (.ifCond .ne 15, 3) := by decide +kernel
theorem dL_law_1521 : decode cL_law 1521 = .ok (.aload_n 3, 1) := by decide +kernel
theorem dL_law_1522 : decode cL_law 1522 = .ok (.iconst 0, 1) := by decide +kernel
theorem dL_law_1523 : decode cL_law 1523 = .ok (.laload, 1) := by decide +kernel
theorem dL_law_1524 : decode cL_law 1524 = .ok (.iload 6, 2) := by decide +kernel
theorem dL_law_1526 : decode cL_law 1526 = .ok (.i2l, 1) := by decide +kernel
theorem dL_law_1527 : decode cL_law 1527 = .ok (.lcmp, 1) := by decide +kernel
theorem dL_law_1528 : decode cL_law 1528 = .ok (.ifCond .eq 5, 3) := by decide +kernel
theorem dL_law_1531 : decode cL_law 1531 = .ok (.iconst 0, 1) := by decide +kernel
theorem dL_law_1532 : decode cL_law 1532 = .ok (.ireturn, 1) := by decide +kernel
theorem dL_law_1533 : decode cL_law 1533 = .ok (.goto 171, 3) := by decide +kernel
theorem dL_law_1536 : decode cL_law 1536 = .ok (.aload_n 1, 1) := by decide +kernel
theorem dL_law_1537 : decode cL_law 1537 = .ok (.aload_n 3, 1) := by decide +kernel
theorem dL_law_1538 : decode cL_law 1538 = .ok (.invokestatic 188, 3) := by decide +kernel
theorem dL_law_1541 : decode cL_law 1541 = .ok (.istore 5, 2) := by decide +kernel
theorem dL_law_1543 : decode cL_law 1543 = .ok (.aload_n 2, 1) := by decide +kernel
theorem dL_law_1544 : decode cL_law 1544 = .ok (.invokevirtual 191, 3) := by decide +kernel
theorem dL_law_1547 : decode cL_law 1547 = .ok (.istore 6, 2) := by decide +kernel
theorem dL_law_1549 : decode cL_law 1549 = .ok (.aload_n 2, 1) := by decide +kernel
theorem dL_law_1550 : decode cL_law 1550 = .ok (.invokevirtual 101, 3) := by decide +kernel
theorem dL_law_1553 : decode cL_law 1553 = .ok (.iload 5, 2) := by decide +kernel
theorem dL_law_1555 : decode cL_law 1555 = .ok (.if_icmp .eq 5, 3) := by decide +kernel
theorem dL_law_1558 : decode cL_law 1558 = .ok (.iconst 0, 1) := by decide +kernel
theorem dL_law_1559 : decode cL_law 1559 = .ok (.ireturn, 1) := by decide +kernel
theorem dL_law_1560 : decode cL_law 1560 = .ok (.iload 5, 2) := by decide +kernel
theorem dL_law_1562 : decode cL_law 1562 = .ok (.ifCond .ne 15, 3) := by decide +kernel
theorem dL_law_1565 : decode cL_law 1565 = .ok (.aload_n 3, 1) := by decide +kernel
theorem dL_law_1566 : decode cL_law 1566 = .ok (.iconst 0, 1) := by decide +kernel
theorem dL_law_1567 : decode cL_law 1567 = .ok (.laload, 1) := by decide +kernel
theorem dL_law_1568 : decode cL_law 1568 = .ok (.iload 6, 2) := by decide +kernel
theorem dL_law_1570 : decode cL_law 1570 = .ok (.i2l, 1) := by decide +kernel
theorem dL_law_1571 : decode cL_law 1571 = .ok (.lcmp, 1) := by decide +kernel
theorem dL_law_1572 : decode cL_law 1572 = .ok (.ifCond .eq 5, 3) := by decide +kernel
theorem dL_law_1575 : decode cL_law 1575 = .ok (.iconst 0, 1) := by decide +kernel
theorem dL_law_1576 : decode cL_law 1576 = .ok (.ireturn, 1) := by decide +kernel
theorem dL_law_1577 : decode cL_law 1577 = .ok (.goto 127, 3) := by decide +kernel
theorem dL_law_1580 : decode cL_law 1580 = .ok (.aload_n 1, 1) := by decide +kernel
theorem dL_law_1581 : decode cL_law 1581 = .ok (.aload_n 0, 1) := by decide +kernel
theorem dL_law_1582 : decode cL_law 1582 = .ok (.iload 4, 2) := by decide +kernel
theorem dL_law_1584 : decode cL_law 1584 = .ok (.iconst 1, 1) := by decide +kernel
theorem dL_law_1585 : decode cL_law 1585 = .ok (.iadd, 1) := by decide +kernel
theorem dL_law_1586 : decode cL_law 1586 = .ok (.iaload, 1) := by decide +kernel
theorem dL_law_1587 : decode cL_law 1587 = .ok (.aload_n 0, 1) := by decide +kernel
theorem dL_law_1588 : decode cL_law 1588 = .ok (.iload 4, 2) := by decide +kernel
theorem dL_law_1590 : decode cL_law 1590 = .ok (.iconst 2, 1) := by decide +kernel
theorem dL_law_1591 : decode cL_law 1591 = .ok (.iadd, 1) := by decide +kernel
theorem dL_law_1592 : decode cL_law 1592 = .ok (.iaload, 1) := by decide +kernel
theorem dL_law_1593 : decode cL_law 1593 = .ok (.aload_n 3, 1) := by decide +kernel
theorem dL_law_1594 : decode cL_law 1594 = .ok (.invokestatic 192, 3) := by decide +kernel
theorem dL_law_1597 : decode cL_law 1597 = .ok (.istore 5, 2) := by decide +kernel
theorem dL_law_1599 : decode cL_law 1599 = .ok (.aload_n 2, 1) := by decide +kernel
theorem dL_law_1600 : decode cL_law 1600 = .ok (.aload_n 0, 1) := by decide +kernel
theorem dL_law_1601 : decode cL_law 1601 = .ok (.iload 4, 2) := by decide +kernel
theorem dL_law_1603 : decode cL_law 1603 = .ok (.iconst 1, 1) := by decide +kernel
theorem dL_law_1604 : decode cL_law 1604 = .ok (.iadd, 1) := by decide +kernel
theorem dL_law_1605 : decode cL_law 1605 = .ok (.iaload, 1) := by decide +kernel
theorem dL_law_1606 : decode cL_law 1606 = .ok (.aload_n 0, 1) := by decide +kernel
theorem dL_law_1607 : decode cL_law 1607 = .ok (.iload 4, 2) := by decide +kernel
theorem dL_law_1609 : decode cL_law 1609 = .ok (.iconst 2, 1) := by decide +kernel
theorem dL_law_1610 : decode cL_law 1610 = .ok (.iadd, 1) := by decide +kernel
theorem dL_law_1611 : decode cL_law 1611 = .ok (.iaload, 1) := by decide +kernel
theorem dL_law_1612 : decode cL_law 1612 = .ok (.invokevirtual 194, 3) := by decide +kernel
theorem dL_law_1615 : decode cL_law 1615 = .ok (.istore 6, 2) := by decide +kernel
theorem dL_law_1617 : decode cL_law 1617 = .ok (.aload_n 2, 1) := by decide +kernel
theorem dL_law_1618 : decode cL_law 1618 = .ok (.invokevirtual 101, 3) := by decide +kernel
theorem dL_law_1621 : decode cL_law 1621 = .ok (.iload 5, 2) := by decide +kernel
theorem dL_law_1623 : decode cL_law 1623 = .ok (.if_icmp .eq 5, 3) := by decide +kernel
theorem dL_law_1626 : decode cL_law 1626 = .ok (.iconst 0, 1) := by decide +kernel
theorem dL_law_1627 : decode cL_law 1627 = .ok (.ireturn, 1) := by decide +kernel
theorem dL_law_1628 : decode cL_law 1628 = .ok (.iload 5, 2) := by decide +kernel
theorem dL_law_1630 : decode cL_law 1630 = .ok (.ifCond .ne 15, 3) := by decide +kernel
theorem dL_law_1633 : decode cL_law 1633 = .ok (.aload_n 3, 1) := by decide +kernel
theorem dL_law_1634 : decode cL_law 1634 = .ok (.iconst 0, 1) := by decide +kernel
theorem dL_law_1635 : decode cL_law 1635 = .ok (.laload, 1) := by decide +kernel
theorem dL_law_1636 : decode cL_law 1636 = .ok (.iload 6, 2) := by decide +kernel
theorem dL_law_1638 : decode cL_law 1638 = .ok (.i2l, 1) := by decide +kernel
theorem dL_law_1639 : decode cL_law 1639 = .ok (.lcmp, 1) := by decide +kernel
theorem dL_law_1640 : decode cL_law 1640 = .ok (.ifCond .eq 5, 3) := by decide +kernel
theorem dL_law_1643 : decode cL_law 1643 = .ok (.iconst 0, 1) := by decide +kernel
theorem dL_law_1644 : decode cL_law 1644 = .ok (.ireturn, 1) := by decide +kernel
theorem dL_law_1645 : decode cL_law 1645 = .ok (.goto 59, 3) := by decide +kernel
theorem dL_law_1648 : decode cL_law 1648 = .ok (.aload_n 1, 1) := by decide +kernel
theorem dL_law_1649 : decode cL_law 1649 = .ok (.aload_n 0, 1) := by decide +kernel
theorem dL_law_1650 : decode cL_law 1650 = .ok (.iload 4, 2) := by decide +kernel
theorem dL_law_1652 : decode cL_law 1652 = .ok (.iconst 1, 1) := by decide +kernel
theorem dL_law_1653 : decode cL_law 1653 = .ok (.iadd, 1) := by decide +kernel
theorem dL_law_1654 : decode cL_law 1654 = .ok (.iaload, 1) := by decide +kernel
theorem dL_law_1655 : decode cL_law 1655 = .ok (.aload_n 3, 1) := by decide +kernel
theorem dL_law_1656 : decode cL_law 1656 = .ok (.invokestatic 195, 3) := by decide +kernel
theorem dL_law_1659 : decode cL_law 1659 = .ok (.istore 5, 2) := by decide +kernel
theorem dL_law_1661 : decode cL_law 1661 = .ok (.aload_n 2, 1) := by decide +kernel
theorem dL_law_1662 : decode cL_law 1662 = .ok (.aload_n 0, 1) := by decide +kernel
theorem dL_law_1663 : decode cL_law 1663 = .ok (.iload 4, 2) := by decide +kernel
theorem dL_law_1665 : decode cL_law 1665 = .ok (.iconst 1, 1) := by decide +kernel
theorem dL_law_1666 : decode cL_law 1666 = .ok (.iadd, 1) := by decide +kernel
theorem dL_law_1667 : decode cL_law 1667 = .ok (.iaload, 1) := by decide +kernel
theorem dL_law_1668 : decode cL_law 1668 = .ok (.invokevirtual 197, 3) := by decide +kernel
theorem dL_law_1671 : decode cL_law 1671 = .ok (.istore 6, 2) := by decide +kernel
theorem dL_law_1673 : decode cL_law 1673 = .ok (.aload_n 2, 1) := by decide +kernel
theorem dL_law_1674 : decode cL_law 1674 = .ok (.invokevirtual 101, 3) := by decide +kernel
theorem dL_law_1677 : decode cL_law 1677 = .ok (.iload 5, 2) := by decide +kernel
theorem dL_law_1679 : decode cL_law 1679 = .ok (.if_icmp .eq 5, 3) := by decide +kernel
theorem dL_law_1682 : decode cL_law 1682 = .ok (.iconst 0, 1) := by decide +kernel
theorem dL_law_1683 : decode cL_law 1683 = .ok (.ireturn, 1) := by decide +kernel
theorem dL_law_1684 : decode cL_law 1684 = .ok (.iload 5, 2) := by decide +kernel
theorem dL_law_1686 : decode cL_law 1686 = .ok (.ifCond .ne 15, 3) := by decide +kernel
theorem dL_law_1689 : decode cL_law 1689 = .ok (.aload_n 3, 1) := by decide +kernel
theorem dL_law_1690 : decode cL_law 1690 = .ok (.iconst 0, 1) := by decide +kernel
theorem dL_law_1691 : decode cL_law 1691 = .ok (.laload, 1) := by decide +kernel
theorem dL_law_1692 : decode cL_law 1692 = .ok (.iload 6, 2) := by decide +kernel
theorem dL_law_1694 : decode cL_law 1694 = .ok (.i2l, 1) := by decide +kernel
theorem dL_law_1695 : decode cL_law 1695 = .ok (.lcmp, 1) := by decide +kernel
theorem dL_law_1696 : decode cL_law 1696 = .ok (.ifCond .eq 5, 3) := by decide +kernel
theorem dL_law_1699 : decode cL_law 1699 = .ok (.iconst 0, 1) := by decide +kernel
theorem dL_law_1700 : decode cL_law 1700 = .ok (.ireturn, 1) := by decide +kernel
theorem dL_law_1701 : decode cL_law 1701 = .ok (.goto 3, 3) := by decide +kernel
theorem dL_law_1704 : decode cL_law 1704 = .ok (.iinc 4 5, 3) := by decide +kernel
theorem dL_law_1707 : decode cL_law 1707 = .ok (.goto (-1684), 3) := by decide +kernel
theorem dL_law_1710 : decode cL_law 1710 = .ok (.iconst 1, 1) := by decide +kernel
theorem dL_law_1711 : decode cL_law 1711 = .ok (.ireturn, 1) := by decide +kernel
end
section
/-- the tables' words that every call keeps: the words of all methods -/
def AL : List Cond := lw_tbl.filter goodWord
theorem al_in {w : Cond} (i : Nat) (h : lw_tbl[i]? = some w) (g : goodWord w = true) : w ∈ AL := List.mem_filter.mpr ⟨List.mem_of_getElem? h, g⟩
theorem al_list {ws : List Cond} (ps : List Nat) (h : ws.map some = ps.map (fun i => lw_tbl[i]?)) (g : ws.all goodWord = true) : ∀ w ∈ ws, w ∈ AL := by
  intro w hw
  obtain ⟨k, hk⟩ := List.getElem?_of_mem hw
  have h1 : (ws.map some)[k]? = some (some w) := by rw [List.getElem?_map, hk]; rfl
  rw [h, List.getElem?_map] at h1
  cases hi : ps[k]? with
  | none => rw [hi] at h1; cases h1
  | some i =>
    rw [hi] at h1
    exact al_in i (Option.some.inj h1) (List.all_eq_true.mp g w hw)
theorem se_X4_needSeat : Cond.selects RX4 yX4_needSeat yX4_needSeat ∈ AL := al_in 1 (by decide +kernel) rfl
theorem se_X4_needRow : Cond.selects RX4 yX4_needRow yX4_needRow ∈ AL := al_in 2 (by decide +kernel) rfl
theorem se_X4_needBest : Cond.selects RX4 yX4_needBest yX4_needBest ∈ AL := al_in 3 (by decide +kernel) rfl
theorem se_X4_needTicketLeft : Cond.selects RX4 yX4_needTicketLeft yX4_needTicketLeft ∈ AL := al_in 4 (by decide +kernel) rfl
theorem se_X4_grantBlock : Cond.selects RX4 yX4_grantBlock yX4_grantBlock ∈ AL := al_in 5 (by decide +kernel) rfl
theorem se_X4_needSplit : Cond.selects RX4 yX4_needSplit yX4_needSplit ∈ AL := al_in 6 (by decide +kernel) rfl
theorem se_X1_startBehindLastRow : Cond.selects RX1 yX1_startBehindLastRow yX1_startBehindLastRow ∈ AL := al_in 7 (by decide +kernel) rfl
theorem se_X1_readBlocks : Cond.selects RX1 yX1_readBlocks yX1_readBlocks ∈ AL := al_in 8 (by decide +kernel) rfl
theorem se_X1_decide : Cond.selects RX1 yX1_decide yX1_decide ∈ AL := al_in 9 (by decide +kernel) rfl
theorem se_X1_takeFromRows : Cond.selects RX1 yX1_takeFromRows yX1_takeFromRows ∈ AL := al_in 10 (by decide +kernel) rfl
theorem se_X1_mostSeats : Cond.selects RX1 yX1_mostSeats yX1_mostSeats ∈ AL := al_in 11 (by decide +kernel) rfl
theorem se_X1_keepsBest : Cond.selects RX1 yX1_keepsBest yX1_keepsBest ∈ AL := al_in 12 (by decide +kernel) rfl
theorem se_X4_grantSplit : Cond.selects RX4 yX4_grantSplit yX4_grantSplit ∈ AL := al_in 13 (by decide +kernel) rfl
theorem se_X4_needTicket : Cond.selects RX4 yX4_needTicket yX4_needTicket ∈ AL := al_in 14 (by decide +kernel) rfl
theorem se_X4_needHold : Cond.selects RX4 yX4_needHold yX4_needHold ∈ AL := al_in 15 (by decide +kernel) rfl
theorem se_X4_closeTicket : Cond.selects RX4 yX4_closeTicket yX4_closeTicket ∈ AL := al_in 16 (by decide +kernel) rfl
theorem se_X0_markEnds : Cond.selects RX0 yX0_markEnds yX0_markEnds ∈ AL := al_in 17 (by decide +kernel) rfl
theorem se_X0_shortenSteps : Cond.selects RX0 yX0_shortenSteps yX0_shortenSteps ∈ AL := al_in 18 (by decide +kernel) rfl
theorem se_X0_takesPart : Cond.selects RX0 yX0_takesPart yX0_takesPart ∈ AL := al_in 19 (by decide +kernel) rfl
theorem se_X0_stepsOf : Cond.selects RX0 yX0_stepsOf yX0_stepsOf ∈ AL := al_in 20 (by decide +kernel) rfl
theorem se_X0_collect : Cond.selects RX0 yX0_collect yX0_collect ∈ AL := al_in 21 (by decide +kernel) rfl
theorem se_X0_lowestIn : Cond.selects RX0 yX0_lowestIn yX0_lowestIn ∈ AL := al_in 22 (by decide +kernel) rfl
theorem se_X0_move : Cond.selects RX0 yX0_move yX0_move ∈ AL := al_in 23 (by decide +kernel) rfl
theorem se_X5_holds : Cond.selects RX5 yX5_holds yX5_holds ∈ AL := al_in 24 (by decide +kernel) rfl
theorem se_X5_isSeat : Cond.selects RX5 yX5_isSeat yX5_isSeat ∈ AL := al_in 25 (by decide +kernel) rfl
theorem se_X5_isRow : Cond.selects RX5 yX5_isRow yX5_isRow ∈ AL := al_in 26 (by decide +kernel) rfl
theorem se_X5_worth : Cond.selects RX5 yX5_worth yX5_worth ∈ AL := al_in 27 (by decide +kernel) rfl
theorem se_X5_frees : Cond.selects RX5 yX5_frees yX5_frees ∈ AL := al_in 28 (by decide +kernel) rfl
theorem se_X5_isFree : Cond.selects RX5 yX5_isFree yX5_isFree ∈ AL := al_in 29 (by decide +kernel) rfl
theorem se_X5_run : Cond.selects RX5 yX5_run yX5_run ∈ AL := al_in 30 (by decide +kernel) rfl
theorem se_X5_best : Cond.selects RX5 yX5_best yX5_best ∈ AL := al_in 31 (by decide +kernel) rfl
theorem se_X5_bestOf : Cond.selects RX5 yX5_bestOf yX5_bestOf ∈ AL := al_in 32 (by decide +kernel) rfl
theorem se_X5_firstIn : Cond.selects RX5 yX5_firstIn yX5_firstIn ∈ AL := al_in 33 (by decide +kernel) rfl
theorem se_X5_hasOrphan : Cond.selects RX5 yX5_hasOrphan yX5_hasOrphan ∈ AL := al_in 34 (by decide +kernel) rfl
theorem se_X5_sum : Cond.selects RX5 yX5_sum yX5_sum ∈ AL := al_in 35 (by decide +kernel) rfl
theorem se_X5_grants : Cond.selects RX5 yX5_grants yX5_grants ∈ AL := al_in 36 (by decide +kernel) rfl
theorem se_X5_owns : Cond.selects RX5 yX5_owns yX5_owns ∈ AL := al_in 37 (by decide +kernel) rfl
theorem se_X5_splits : Cond.selects RX5 yX5_splits yX5_splits ∈ AL := al_in 38 (by decide +kernel) rfl
theorem se_X5_laysSplits : Cond.selects RX5 yX5_laysSplits yX5_laysSplits ∈ AL := al_in 39 (by decide +kernel) rfl
theorem se_X5_laysSeats : Cond.selects RX5 yX5_laysSeats yX5_laysSeats ∈ AL := al_in 40 (by decide +kernel) rfl
theorem se_X5_given : Cond.selects RX5 yX5_given yX5_given ∈ AL := al_in 41 (by decide +kernel) rfl
theorem se_X5_isTicket : Cond.selects RX5 yX5_isTicket yX5_isTicket ∈ AL := al_in 42 (by decide +kernel) rfl
theorem se_X5_many : Cond.selects RX5 yX5_many yX5_many ∈ AL := al_in 43 (by decide +kernel) rfl
theorem se_X5_priced : Cond.selects RX5 yX5_priced yX5_priced ∈ AL := al_in 44 (by decide +kernel) rfl
theorem se_X5_closes : Cond.selects RX5 yX5_closes yX5_closes ∈ AL := al_in 45 (by decide +kernel) rfl
theorem se_X5_mayWish : Cond.selects RX5 yX5_mayWish yX5_mayWish ∈ AL := al_in 46 (by decide +kernel) rfl
theorem se_X5_firstOf : Cond.selects RX5 yX5_firstOf yX5_firstOf ∈ AL := al_in 47 (by decide +kernel) rfl
theorem se_X5_lastOf : Cond.selects RX5 yX5_lastOf yX5_lastOf ∈ AL := al_in 48 (by decide +kernel) rfl
theorem se_X5_hasWish : Cond.selects RX5 yX5_hasWish yX5_hasWish ∈ AL := al_in 49 (by decide +kernel) rfl
theorem se_X5_laysFar : Cond.selects RX5 yX5_laysFar yX5_laysFar ∈ AL := al_in 50 (by decide +kernel) rfl
theorem se_X5_follows : Cond.selects RX5 yX5_follows yX5_follows ∈ AL := al_in 51 (by decide +kernel) rfl
theorem se_X5_changes : Cond.selects RX5 yX5_changes yX5_changes ∈ AL := al_in 52 (by decide +kernel) rfl
theorem in_L : Cond.initialized RL ∈ AL := al_in 53 (by decide +kernel) rfl
theorem in_X4 : Cond.initialized RX4 ∈ AL := al_in 54 (by decide +kernel) rfl
theorem in_X2 : Cond.initialized RX2 ∈ AL := al_in 55 (by decide +kernel) rfl
theorem in_X3 : Cond.initialized RX3 ∈ AL := al_in 56 (by decide +kernel) rfl
theorem in_X1 : Cond.initialized RX1 ∈ AL := al_in 57 (by decide +kernel) rfl
theorem in_X0 : Cond.initialized RX0 ∈ AL := al_in 58 (by decide +kernel) rfl
theorem in_X5 : Cond.initialized RX5 ∈ AL := al_in 59 (by decide +kernel) rfl
theorem kl_L_8 : Cond.classLink RL 8 "BoxofficeRow" ∈ AL := al_in 67 (by decide +kernel) rfl
theorem is_X4 : Cond.instantiable RX4 6 ∈ AL := al_in 68 (by decide +kernel) rfl
theorem ml_L_91 : Cond.methodLink RL 91 yX4_init ∈ AL := al_in 69 (by decide +kernel) rfl
theorem im_X4_init : Cond.instanceMethod yX4_init ∈ AL := al_in 70 (by decide +kernel) rfl
theorem co_X4_init : Cond.code yX4_init cX4_init 1 none ∈ AL := al_in 71 (by decide +kernel) rfl
theorem ml_X4_1 : Cond.methodLink RX4 1 objectInit ∈ AL := al_in 72 (by decide +kernel) rfl
theorem im_objectInit : Cond.instanceMethod objectInit ∈ AL := al_in 73 (by decide +kernel) rfl
theorem co_objectInit : Cond.code objectInit ⟨#[0xb1]⟩ 1 none ∈ AL := al_in 74 (by decide +kernel) rfl
theorem kl_X4_7 : Cond.classLink RX4 7 "BoxofficeRow$Hall" ∈ AL := al_in 75 (by decide +kernel) rfl
theorem is_X2 : Cond.instantiable RX2 5 ∈ AL := al_in 76 (by decide +kernel) rfl
theorem ml_X4_9 : Cond.methodLink RX4 9 yX2_init ∈ AL := al_in 77 (by decide +kernel) rfl
theorem im_X2_init : Cond.instanceMethod yX2_init ∈ AL := al_in 78 (by decide +kernel) rfl
theorem co_X2_init : Cond.code yX2_init cX2_init 1 none ∈ AL := al_in 79 (by decide +kernel) rfl
theorem ml_X2_3 : Cond.methodLink RX2 3 objectInit ∈ AL := al_in 80 (by decide +kernel) rfl
theorem kl_X2_21 : Cond.classLink RX2 21 "[[I" ∈ AL := al_in 81 (by decide +kernel) rfl
theorem fl_X2_9 : Cond.fieldLink RX2 9 "BoxofficeRow$Hall" "seatCounts" "[I" ∈ AL := al_in 83 (by decide +kernel) rfl
theorem fl_X2_15 : Cond.fieldLink RX2 15 "BoxofficeRow$Hall" "scores" "[I" ∈ AL := al_in 84 (by decide +kernel) rfl
theorem fl_X2_18 : Cond.fieldLink RX2 18 "BoxofficeRow$Hall" "prices" "[I" ∈ AL := al_in 85 (by decide +kernel) rfl
theorem fl_X2_23 : Cond.fieldLink RX2 23 "BoxofficeRow$Hall" "owners" "[[I" ∈ AL := al_in 86 (by decide +kernel) rfl
theorem fl_X2_26 : Cond.fieldLink RX2 26 "BoxofficeRow$Hall" "added" "I" ∈ AL := al_in 87 (by decide +kernel) rfl
theorem ac_int : Cond.arrayClass .int ∈ AL := al_in 99 (by decide +kernel) rfl
theorem kl_X4_16 : Cond.classLink RX4 16 "BoxofficeRow$TicketBook" ∈ AL := al_in 100 (by decide +kernel) rfl
theorem is_X3 : Cond.instantiable RX3 9 ∈ AL := al_in 101 (by decide +kernel) rfl
theorem ml_X4_18 : Cond.methodLink RX4 18 yX3_init ∈ AL := al_in 102 (by decide +kernel) rfl
theorem im_X3_init : Cond.instanceMethod yX3_init ∈ AL := al_in 103 (by decide +kernel) rfl
theorem co_X3_init : Cond.code yX3_init cX3_init 1 none ∈ AL := al_in 104 (by decide +kernel) rfl
theorem ml_X3_3 : Cond.methodLink RX3 3 objectInit ∈ AL := al_in 105 (by decide +kernel) rfl
theorem fl_X3_9 : Cond.fieldLink RX3 9 "BoxofficeRow$TicketBook" "states" "[I" ∈ AL := al_in 106 (by decide +kernel) rfl
theorem fl_X3_15 : Cond.fieldLink RX3 15 "BoxofficeRow$TicketBook" "sizes" "[I" ∈ AL := al_in 107 (by decide +kernel) rfl
theorem fl_X3_18 : Cond.fieldLink RX3 18 "BoxofficeRow$TicketBook" "ends" "[I" ∈ AL := al_in 108 (by decide +kernel) rfl
theorem fl_X3_21 : Cond.fieldLink RX3 21 "BoxofficeRow$TicketBook" "extensions" "[I" ∈ AL := al_in 109 (by decide +kernel) rfl
theorem fl_X3_24 : Cond.fieldLink RX3 24 "BoxofficeRow$TicketBook" "paid" "[I" ∈ AL := al_in 110 (by decide +kernel) rfl
theorem fl_X3_27 : Cond.fieldLink RX3 27 "BoxofficeRow$TicketBook" "placeRows" "[I" ∈ AL := al_in 111 (by decide +kernel) rfl
theorem fl_X3_30 : Cond.fieldLink RX3 30 "BoxofficeRow$TicketBook" "placeFirsts" "[I" ∈ AL := al_in 112 (by decide +kernel) rfl
theorem fl_X3_33 : Cond.fieldLink RX3 33 "BoxofficeRow$TicketBook" "wishes" "[I" ∈ AL := al_in 113 (by decide +kernel) rfl
theorem fl_X3_36 : Cond.fieldLink RX3 36 "BoxofficeRow$TicketBook" "granted" "I" ∈ AL := al_in 114 (by decide +kernel) rfl
theorem kl_X4_23 : Cond.classLink RX4 23 "BoxofficeRow$GroupSplit" ∈ AL := al_in 134 (by decide +kernel) rfl
theorem is_X1 : Cond.instantiable RX1 8 ∈ AL := al_in 135 (by decide +kernel) rfl
theorem ml_X4_25 : Cond.methodLink RX4 25 yX1_init ∈ AL := al_in 136 (by decide +kernel) rfl
theorem im_X1_init : Cond.instanceMethod yX1_init ∈ AL := al_in 137 (by decide +kernel) rfl
theorem co_X1_init : Cond.code yX1_init cX1_init 2 none ∈ AL := al_in 138 (by decide +kernel) rfl
theorem ml_X1_3 : Cond.methodLink RX1 3 objectInit ∈ AL := al_in 139 (by decide +kernel) rfl
theorem kl_X1_19 : Cond.classLink RX1 19 "[[I" ∈ AL := al_in 140 (by decide +kernel) rfl
theorem fl_X1_9 : Cond.fieldLink RX1 9 "BoxofficeRow$GroupSplit" "hall" "LBoxofficeRow$Hall;" ∈ AL := al_in 141 (by decide +kernel) rfl
theorem fl_X1_15 : Cond.fieldLink RX1 15 "BoxofficeRow$GroupSplit" "longest" "[I" ∈ AL := al_in 142 (by decide +kernel) rfl
theorem fl_X1_21 : Cond.fieldLink RX1 21 "BoxofficeRow$GroupSplit" "blockFirsts" "[[I" ∈ AL := al_in 143 (by decide +kernel) rfl
theorem fl_X1_24 : Cond.fieldLink RX1 24 "BoxofficeRow$GroupSplit" "blockValues" "[[I" ∈ AL := al_in 144 (by decide +kernel) rfl
theorem fl_X1_27 : Cond.fieldLink RX1 27 "BoxofficeRow$GroupSplit" "fewestRows" "[[I" ∈ AL := al_in 145 (by decide +kernel) rfl
theorem fl_X1_30 : Cond.fieldLink RX1 30 "BoxofficeRow$GroupSplit" "greatestValues" "[[I" ∈ AL := al_in 146 (by decide +kernel) rfl
theorem fl_X1_33 : Cond.fieldLink RX1 33 "BoxofficeRow$GroupSplit" "taken" "[I" ∈ AL := al_in 147 (by decide +kernel) rfl
theorem fl_X1_36 : Cond.fieldLink RX1 36 "BoxofficeRow$GroupSplit" "used" "I" ∈ AL := al_in 148 (by decide +kernel) rfl
theorem kl_X4_32 : Cond.classLink RX4 32 "BoxofficeRow$ExchangeChain" ∈ AL := al_in 166 (by decide +kernel) rfl
theorem is_X0 : Cond.instantiable RX0 6 ∈ AL := al_in 167 (by decide +kernel) rfl
theorem ml_X4_34 : Cond.methodLink RX4 34 yX0_init ∈ AL := al_in 168 (by decide +kernel) rfl
theorem im_X0_init : Cond.instanceMethod yX0_init ∈ AL := al_in 169 (by decide +kernel) rfl
theorem co_X0_init : Cond.code yX0_init cX0_init 3 none ∈ AL := al_in 170 (by decide +kernel) rfl
theorem ml_X0_3 : Cond.methodLink RX0 3 objectInit ∈ AL := al_in 171 (by decide +kernel) rfl
theorem fl_X0_9 : Cond.fieldLink RX0 9 "BoxofficeRow$ExchangeChain" "hall" "LBoxofficeRow$Hall;" ∈ AL := al_in 172 (by decide +kernel) rfl
theorem fl_X0_15 : Cond.fieldLink RX0 15 "BoxofficeRow$ExchangeChain" "book" "LBoxofficeRow$TicketBook;" ∈ AL := al_in 173 (by decide +kernel) rfl
theorem fl_X0_19 : Cond.fieldLink RX0 19 "BoxofficeRow$ExchangeChain" "stepsFrom" "[I" ∈ AL := al_in 174 (by decide +kernel) rfl
theorem fl_X0_23 : Cond.fieldLink RX0 23 "BoxofficeRow$ExchangeChain" "members" "[I" ∈ AL := al_in 175 (by decide +kernel) rfl
theorem fl_X0_26 : Cond.fieldLink RX0 26 "BoxofficeRow$ExchangeChain" "length" "I" ∈ AL := al_in 176 (by decide +kernel) rfl
theorem fl_X0_30 : Cond.fieldLink RX0 30 "BoxofficeRow$ExchangeChain" "seats" "I" ∈ AL := al_in 177 (by decide +kernel) rfl
theorem fl_X4_10 : Cond.fieldLink RX4 10 "BoxofficeRow" "hall" "LBoxofficeRow$Hall;" ∈ AL := al_in 191 (by decide +kernel) rfl
theorem fl_X4_19 : Cond.fieldLink RX4 19 "BoxofficeRow" "book" "LBoxofficeRow$TicketBook;" ∈ AL := al_in 192 (by decide +kernel) rfl
theorem fl_X4_28 : Cond.fieldLink RX4 28 "BoxofficeRow" "split" "LBoxofficeRow$GroupSplit;" ∈ AL := al_in 193 (by decide +kernel) rfl
theorem fl_X4_37 : Cond.fieldLink RX4 37 "BoxofficeRow" "chain" "LBoxofficeRow$ExchangeChain;" ∈ AL := al_in 194 (by decide +kernel) rfl
theorem fl_X4_41 : Cond.fieldLink RX4 41 "BoxofficeRow" "minute" "I" ∈ AL := al_in 195 (by decide +kernel) rfl
theorem fl_X4_45 : Cond.fieldLink RX4 45 "BoxofficeRow" "balance" "I" ∈ AL := al_in 196 (by decide +kernel) rfl
theorem ml_L_108 : Cond.methodLink RL 108 yX4_rows ∈ AL := al_in 210 (by decide +kernel) rfl
theorem im_X4_rows : Cond.instanceMethod yX4_rows ∈ AL := al_in 211 (by decide +kernel) rfl
theorem se_X4_rows : Cond.selects RX4 yX4_rows yX4_rows ∈ AL := al_in 212 (by decide +kernel) rfl
theorem co_X4_rows : Cond.code yX4_rows cX4_rows 1 (some .int) ∈ AL := al_in 213 (by decide +kernel) rfl
theorem ml_X4_56 : Cond.methodLink RX4 56 yX2_rowCount ∈ AL := al_in 214 (by decide +kernel) rfl
theorem im_X2_rowCount : Cond.instanceMethod yX2_rowCount ∈ AL := al_in 215 (by decide +kernel) rfl
theorem se_X2_rowCount : Cond.selects RX2 yX2_rowCount yX2_rowCount ∈ AL := al_in 216 (by decide +kernel) rfl
theorem co_X2_rowCount : Cond.code yX2_rowCount cX2_rowCount 1 (some .int) ∈ AL := al_in 217 (by decide +kernel) rfl
theorem ml_L_125 : Cond.methodLink RL 125 yX4_orphans ∈ AL := al_in 218 (by decide +kernel) rfl
theorem im_X4_orphans : Cond.instanceMethod yX4_orphans ∈ AL := al_in 219 (by decide +kernel) rfl
theorem se_X4_orphans : Cond.selects RX4 yX4_orphans yX4_orphans ∈ AL := al_in 220 (by decide +kernel) rfl
theorem co_X4_orphans : Cond.code yX4_orphans cX4_orphans 1 (some .int) ∈ AL := al_in 221 (by decide +kernel) rfl
theorem ml_X4_103 : Cond.methodLink RX4 103 yX2_countOrphans ∈ AL := al_in 222 (by decide +kernel) rfl
theorem im_X2_countOrphans : Cond.instanceMethod yX2_countOrphans ∈ AL := al_in 223 (by decide +kernel) rfl
theorem se_X2_countOrphans : Cond.selects RX2 yX2_countOrphans yX2_countOrphans ∈ AL := al_in 224 (by decide +kernel) rfl
theorem co_X2_countOrphans : Cond.code yX2_countOrphans cX2_countOrphans 4 (some .int) ∈ AL := al_in 225 (by decide +kernel) rfl
theorem ml_X2_40 : Cond.methodLink RX2 40 yX2_seatsIn ∈ AL := al_in 226 (by decide +kernel) rfl
theorem im_X2_seatsIn : Cond.instanceMethod yX2_seatsIn ∈ AL := al_in 227 (by decide +kernel) rfl
theorem se_X2_seatsIn : Cond.selects RX2 yX2_seatsIn yX2_seatsIn ∈ AL := al_in 228 (by decide +kernel) rfl
theorem co_X2_seatsIn : Cond.code yX2_seatsIn cX2_seatsIn 2 (some .int) ∈ AL := al_in 229 (by decide +kernel) rfl
theorem ml_X2_43 : Cond.methodLink RX2 43 yX2_isFree ∈ AL := al_in 230 (by decide +kernel) rfl
theorem im_X2_isFree : Cond.instanceMethod yX2_isFree ∈ AL := al_in 231 (by decide +kernel) rfl
theorem se_X2_isFree : Cond.selects RX2 yX2_isFree yX2_isFree ∈ AL := al_in 232 (by decide +kernel) rfl
theorem co_X2_isFree : Cond.code yX2_isFree cX2_isFree 3 (some .boolean) ∈ AL := al_in 233 (by decide +kernel) rfl
theorem ml_X2_30 : Cond.methodLink RX2 30 yX2_hasSeat ∈ AL := al_in 234 (by decide +kernel) rfl
theorem im_X2_hasSeat : Cond.instanceMethod yX2_hasSeat ∈ AL := al_in 235 (by decide +kernel) rfl
theorem se_X2_hasSeat : Cond.selects RX2 yX2_hasSeat yX2_hasSeat ∈ AL := al_in 236 (by decide +kernel) rfl
theorem co_X2_hasSeat : Cond.code yX2_hasSeat cX2_hasSeat 3 (some .boolean) ∈ AL := al_in 237 (by decide +kernel) rfl
theorem ml_L_129 : Cond.methodLink RL 129 yX4_longestBlock ∈ AL := al_in 238 (by decide +kernel) rfl
theorem im_X4_longestBlock : Cond.instanceMethod yX4_longestBlock ∈ AL := al_in 239 (by decide +kernel) rfl
theorem se_X4_longestBlock : Cond.selects RX4 yX4_longestBlock yX4_longestBlock ∈ AL := al_in 240 (by decide +kernel) rfl
theorem co_X4_longestBlock : Cond.code yX4_longestBlock cX4_longestBlock 1 (some .int) ∈ AL := al_in 241 (by decide +kernel) rfl
theorem ml_X4_106 : Cond.methodLink RX4 106 yX2_longestFree ∈ AL := al_in 242 (by decide +kernel) rfl
theorem im_X2_longestFree : Cond.instanceMethod yX2_longestFree ∈ AL := al_in 243 (by decide +kernel) rfl
theorem se_X2_longestFree : Cond.selects RX2 yX2_longestFree yX2_longestFree ∈ AL := al_in 244 (by decide +kernel) rfl
theorem co_X2_longestFree : Cond.code yX2_longestFree cX2_longestFree 3 (some .int) ∈ AL := al_in 245 (by decide +kernel) rfl
theorem ml_X2_46 : Cond.methodLink RX2 46 yX2_longestFreeIn ∈ AL := al_in 246 (by decide +kernel) rfl
theorem im_X2_longestFreeIn : Cond.instanceMethod yX2_longestFreeIn ∈ AL := al_in 247 (by decide +kernel) rfl
theorem se_X2_longestFreeIn : Cond.selects RX2 yX2_longestFreeIn yX2_longestFreeIn ∈ AL := al_in 248 (by decide +kernel) rfl
theorem co_X2_longestFreeIn : Cond.code yX2_longestFreeIn cX2_longestFreeIn 5 (some .int) ∈ AL := al_in 249 (by decide +kernel) rfl
theorem ml_X2_49 : Cond.methodLink RX2 49 Lib.Math.max.name ∈ AL := al_in 250 (by decide +kernel) rfl
theorem st_Math_max : Cond.static Lib.Math.max.name ∈ AL := al_in 251 (by decide +kernel) rfl
theorem co_Math_max : Cond.code Lib.Math.max.name Lib.Math.max.code 2 (some .int) ∈ AL := al_in 252 (by decide +kernel) rfl
theorem ml_L_155 : Cond.methodLink RL 155 yX4_tickets ∈ AL := al_in 253 (by decide +kernel) rfl
theorem im_X4_tickets : Cond.instanceMethod yX4_tickets ∈ AL := al_in 254 (by decide +kernel) rfl
theorem se_X4_tickets : Cond.selects RX4 yX4_tickets yX4_tickets ∈ AL := al_in 255 (by decide +kernel) rfl
theorem co_X4_tickets : Cond.code yX4_tickets cX4_tickets 1 (some .int) ∈ AL := al_in 256 (by decide +kernel) rfl
theorem ml_X4_146 : Cond.methodLink RX4 146 yX3_count ∈ AL := al_in 257 (by decide +kernel) rfl
theorem im_X3_count : Cond.instanceMethod yX3_count ∈ AL := al_in 258 (by decide +kernel) rfl
theorem se_X3_count : Cond.selects RX3 yX3_count yX3_count ∈ AL := al_in 259 (by decide +kernel) rfl
theorem co_X3_count : Cond.code yX3_count cX3_count 1 (some .int) ∈ AL := al_in 260 (by decide +kernel) rfl
theorem ml_L_177 : Cond.methodLink RL 177 yX4_takings ∈ AL := al_in 261 (by decide +kernel) rfl
theorem im_X4_takings : Cond.instanceMethod yX4_takings ∈ AL := al_in 262 (by decide +kernel) rfl
theorem se_X4_takings : Cond.selects RX4 yX4_takings yX4_takings ∈ AL := al_in 263 (by decide +kernel) rfl
theorem co_X4_takings : Cond.code yX4_takings cX4_takings 1 (some .int) ∈ AL := al_in 264 (by decide +kernel) rfl
theorem ml_L_181 : Cond.methodLink RL 181 yX4_now ∈ AL := al_in 265 (by decide +kernel) rfl
theorem im_X4_now : Cond.instanceMethod yX4_now ∈ AL := al_in 266 (by decide +kernel) rfl
theorem se_X4_now : Cond.selects RX4 yX4_now yX4_now ∈ AL := al_in 267 (by decide +kernel) rfl
theorem co_X4_now : Cond.code yX4_now cX4_now 1 (some .int) ∈ AL := al_in 268 (by decide +kernel) rfl
theorem ml_L_95 : Cond.methodLink RL 95 yL_addRow ∈ AL := al_in 269 (by decide +kernel) rfl
theorem st_L_addRow : Cond.static yL_addRow ∈ AL := al_in 270 (by decide +kernel) rfl
theorem co_L_addRow : Cond.codeWith yL_addRow cL_addRow 6 (some .int) [(0, 12, 15, 13), (0, 12, 19, 15)] ∈ AL := al_in 271 (by decide +kernel) rfl
theorem kl_L_13 : Cond.classLink RL 13 "java/lang/IllegalArgumentException" ∈ AL := al_in 272 (by decide +kernel) rfl
theorem kl_L_15 : Cond.classLink RL 15 "java/lang/IllegalStateException" ∈ AL := al_in 273 (by decide +kernel) rfl
theorem ml_L_7 : Cond.methodLink RL 7 yX4_addRow ∈ AL := al_in 274 (by decide +kernel) rfl
theorem im_X4_addRow : Cond.instanceMethod yX4_addRow ∈ AL := al_in 275 (by decide +kernel) rfl
theorem se_X4_addRow : Cond.selects RX4 yX4_addRow yX4_addRow ∈ AL := al_in 276 (by decide +kernel) rfl
theorem co_X4_addRow : Cond.code yX4_addRow cX4_addRow 4 (some .int) ∈ AL := al_in 277 (by decide +kernel) rfl
theorem ml_X4_48 : Cond.methodLink RX4 48 yX4_needSeats ∈ AL := al_in 278 (by decide +kernel) rfl
theorem st_X4_needSeats : Cond.static yX4_needSeats ∈ AL := al_in 279 (by decide +kernel) rfl
theorem co_X4_needSeats : Cond.code yX4_needSeats cX4_needSeats 1 none ∈ AL := al_in 280 (by decide +kernel) rfl
theorem ml_X4_52 : Cond.methodLink RX4 52 yX4_needRange ∈ AL := al_in 281 (by decide +kernel) rfl
theorem st_X4_needRange : Cond.static yX4_needRange ∈ AL := al_in 282 (by decide +kernel) rfl
theorem co_X4_needRange : Cond.code yX4_needRange cX4_needRange 3 none ∈ AL := al_in 283 (by decide +kernel) rfl
theorem kl_X4_234 : Cond.classLink RX4 234 "java/lang/IllegalArgumentException" ∈ AL := al_in 284 (by decide +kernel) rfl
theorem ac_byte : Cond.arrayClass .byte ∈ AL := al_in 351 (by decide +kernel) rfl
theorem kl_X4_60 : Cond.classLink RX4 60 "java/lang/IllegalStateException" ∈ AL := al_in 352 (by decide +kernel) rfl
theorem ml_X4_67 : Cond.methodLink RX4 67 yX2_append ∈ AL := al_in 368 (by decide +kernel) rfl
theorem im_X2_append : Cond.instanceMethod yX2_append ∈ AL := al_in 369 (by decide +kernel) rfl
theorem se_X2_append : Cond.selects RX2 yX2_append yX2_append ∈ AL := al_in 370 (by decide +kernel) rfl
theorem co_X2_append : Cond.code yX2_append cX2_append 4 (some .int) ∈ AL := al_in 371 (by decide +kernel) rfl
theorem ml_L_104 : Cond.methodLink RL 104 yL_toggleBlocked ∈ AL := al_in 372 (by decide +kernel) rfl
theorem st_L_toggleBlocked : Cond.static yL_toggleBlocked ∈ AL := al_in 373 (by decide +kernel) rfl
theorem co_L_toggleBlocked : Cond.codeWith yL_toggleBlocked cL_toggleBlocked 5 (some .int) [(0, 17, 20, 21), (0, 17, 24, 15)] ∈ AL := al_in 374 (by decide +kernel) rfl
theorem kl_L_21 : Cond.classLink RL 21 "java/lang/IndexOutOfBoundsException" ∈ AL := al_in 375 (by decide +kernel) rfl
theorem ml_L_17 : Cond.methodLink RL 17 yX4_toggleBlocked ∈ AL := al_in 376 (by decide +kernel) rfl
theorem im_X4_toggleBlocked : Cond.instanceMethod yX4_toggleBlocked ∈ AL := al_in 377 (by decide +kernel) rfl
theorem se_X4_toggleBlocked : Cond.selects RX4 yX4_toggleBlocked yX4_toggleBlocked ∈ AL := al_in 378 (by decide +kernel) rfl
theorem co_X4_toggleBlocked : Cond.code yX4_toggleBlocked cX4_toggleBlocked 5 (some .boolean) ∈ AL := al_in 379 (by decide +kernel) rfl
theorem ml_X4_71 : Cond.methodLink RX4 71 yX4_needSeat ∈ AL := al_in 380 (by decide +kernel) rfl
theorem im_X4_needSeat : Cond.instanceMethod yX4_needSeat ∈ AL := al_in 382 (by decide +kernel) rfl
theorem co_X4_needSeat : Cond.code yX4_needSeat cX4_needSeat 3 none ∈ AL := al_in 383 (by decide +kernel) rfl
theorem ml_X4_223 : Cond.methodLink RX4 223 yX2_hasSeat ∈ AL := al_in 384 (by decide +kernel) rfl
theorem kl_X4_218 : Cond.classLink RX4 218 "java/lang/IndexOutOfBoundsException" ∈ AL := al_in 385 (by decide +kernel) rfl
theorem ml_X4_75 : Cond.methodLink RX4 75 yX2_ownerOf ∈ AL := al_in 401 (by decide +kernel) rfl
theorem im_X2_ownerOf : Cond.instanceMethod yX2_ownerOf ∈ AL := al_in 402 (by decide +kernel) rfl
theorem se_X2_ownerOf : Cond.selects RX2 yX2_ownerOf yX2_ownerOf ∈ AL := al_in 403 (by decide +kernel) rfl
theorem co_X2_ownerOf : Cond.code yX2_ownerOf cX2_ownerOf 3 (some .int) ∈ AL := al_in 404 (by decide +kernel) rfl
theorem ml_X4_81 : Cond.methodLink RX4 81 yX2_give ∈ AL := al_in 406 (by decide +kernel) rfl
theorem im_X2_give : Cond.instanceMethod yX2_give ∈ AL := al_in 407 (by decide +kernel) rfl
theorem se_X2_give : Cond.selects RX2 yX2_give yX2_give ∈ AL := al_in 408 (by decide +kernel) rfl
theorem co_X2_give : Cond.code yX2_give cX2_give 6 none ∈ AL := al_in 409 (by decide +kernel) rfl
theorem ml_L_112 : Cond.methodLink RL 112 yL_state ∈ AL := al_in 410 (by decide +kernel) rfl
theorem st_L_state : Cond.static yL_state ∈ AL := al_in 411 (by decide +kernel) rfl
theorem co_L_state : Cond.codeWith yL_state cL_state 5 (some .int) [(0, 10, 13, 21)] ∈ AL := al_in 412 (by decide +kernel) rfl
theorem ml_L_23 : Cond.methodLink RL 23 yX4_state ∈ AL := al_in 413 (by decide +kernel) rfl
theorem im_X4_state : Cond.instanceMethod yX4_state ∈ AL := al_in 414 (by decide +kernel) rfl
theorem se_X4_state : Cond.selects RX4 yX4_state yX4_state ∈ AL := al_in 415 (by decide +kernel) rfl
theorem co_X4_state : Cond.code yX4_state cX4_state 4 (some .int) ∈ AL := al_in 416 (by decide +kernel) rfl
theorem ml_X4_85 : Cond.methodLink RX4 85 yX3_stateOf ∈ AL := al_in 417 (by decide +kernel) rfl
theorem im_X3_stateOf : Cond.instanceMethod yX3_stateOf ∈ AL := al_in 418 (by decide +kernel) rfl
theorem se_X3_stateOf : Cond.selects RX3 yX3_stateOf yX3_stateOf ∈ AL := al_in 419 (by decide +kernel) rfl
theorem co_X3_stateOf : Cond.code yX3_stateOf cX3_stateOf 2 (some .int) ∈ AL := al_in 420 (by decide +kernel) rfl
theorem ml_X3_40 : Cond.methodLink RX3 40 yX3_hasTicket ∈ AL := al_in 421 (by decide +kernel) rfl
theorem im_X3_hasTicket : Cond.instanceMethod yX3_hasTicket ∈ AL := al_in 422 (by decide +kernel) rfl
theorem se_X3_hasTicket : Cond.selects RX3 yX3_hasTicket yX3_hasTicket ∈ AL := al_in 423 (by decide +kernel) rfl
theorem co_X3_hasTicket : Cond.code yX3_hasTicket cX3_hasTicket 2 (some .boolean) ∈ AL := al_in 424 (by decide +kernel) rfl
theorem ml_L_115 : Cond.methodLink RL 115 yL_ticketAt ∈ AL := al_in 425 (by decide +kernel) rfl
theorem st_L_ticketAt : Cond.static yL_ticketAt ∈ AL := al_in 426 (by decide +kernel) rfl
theorem co_L_ticketAt : Cond.codeWith yL_ticketAt cL_ticketAt 5 (some .int) [(0, 10, 13, 21)] ∈ AL := al_in 427 (by decide +kernel) rfl
theorem ml_L_27 : Cond.methodLink RL 27 yX4_ticketAt ∈ AL := al_in 428 (by decide +kernel) rfl
theorem im_X4_ticketAt : Cond.instanceMethod yX4_ticketAt ∈ AL := al_in 429 (by decide +kernel) rfl
theorem se_X4_ticketAt : Cond.selects RX4 yX4_ticketAt yX4_ticketAt ∈ AL := al_in 430 (by decide +kernel) rfl
theorem co_X4_ticketAt : Cond.code yX4_ticketAt cX4_ticketAt 3 (some .int) ∈ AL := al_in 431 (by decide +kernel) rfl
theorem ml_X4_89 : Cond.methodLink RX4 89 Lib.Math.max.name ∈ AL := al_in 432 (by decide +kernel) rfl
theorem ml_L_118 : Cond.methodLink RL 118 yL_value ∈ AL := al_in 433 (by decide +kernel) rfl
theorem st_L_value : Cond.static yL_value ∈ AL := al_in 434 (by decide +kernel) rfl
theorem co_L_value : Cond.codeWith yL_value cL_value 5 (some .int) [(0, 10, 13, 21)] ∈ AL := al_in 435 (by decide +kernel) rfl
theorem ml_L_30 : Cond.methodLink RL 30 yX4_value ∈ AL := al_in 436 (by decide +kernel) rfl
theorem im_X4_value : Cond.instanceMethod yX4_value ∈ AL := al_in 437 (by decide +kernel) rfl
theorem se_X4_value : Cond.selects RX4 yX4_value yX4_value ∈ AL := al_in 438 (by decide +kernel) rfl
theorem co_X4_value : Cond.code yX4_value cX4_value 3 (some .int) ∈ AL := al_in 439 (by decide +kernel) rfl
theorem ml_X4_94 : Cond.methodLink RX4 94 yX2_seatValue ∈ AL := al_in 440 (by decide +kernel) rfl
theorem im_X2_seatValue : Cond.instanceMethod yX2_seatValue ∈ AL := al_in 441 (by decide +kernel) rfl
theorem se_X2_seatValue : Cond.selects RX2 yX2_seatValue yX2_seatValue ∈ AL := al_in 442 (by decide +kernel) rfl
theorem co_X2_seatValue : Cond.code yX2_seatValue cX2_seatValue 3 (some .int) ∈ AL := al_in 443 (by decide +kernel) rfl
theorem ml_X2_34 : Cond.methodLink RX2 34 Lib.Math.abs.name ∈ AL := al_in 444 (by decide +kernel) rfl
theorem st_Math_abs : Cond.static Lib.Math.abs.name ∈ AL := al_in 445 (by decide +kernel) rfl
theorem co_Math_abs : Cond.code Lib.Math.abs.name Lib.Math.abs.code 1 (some .int) ∈ AL := al_in 446 (by decide +kernel) rfl
theorem ml_L_121 : Cond.methodLink RL 121 yL_freeSeats ∈ AL := al_in 447 (by decide +kernel) rfl
theorem st_L_freeSeats : Cond.static yL_freeSeats ∈ AL := al_in 448 (by decide +kernel) rfl
theorem co_L_freeSeats : Cond.codeWith yL_freeSeats cL_freeSeats 4 (some .int) [(0, 9, 12, 21)] ∈ AL := al_in 449 (by decide +kernel) rfl
theorem ml_L_33 : Cond.methodLink RL 33 yX4_freeSeats ∈ AL := al_in 450 (by decide +kernel) rfl
theorem im_X4_freeSeats : Cond.instanceMethod yX4_freeSeats ∈ AL := al_in 451 (by decide +kernel) rfl
theorem se_X4_freeSeats : Cond.selects RX4 yX4_freeSeats yX4_freeSeats ∈ AL := al_in 452 (by decide +kernel) rfl
theorem co_X4_freeSeats : Cond.code yX4_freeSeats cX4_freeSeats 2 (some .int) ∈ AL := al_in 453 (by decide +kernel) rfl
theorem ml_X4_97 : Cond.methodLink RX4 97 yX4_needRow ∈ AL := al_in 454 (by decide +kernel) rfl
theorem im_X4_needRow : Cond.instanceMethod yX4_needRow ∈ AL := al_in 456 (by decide +kernel) rfl
theorem co_X4_needRow : Cond.code yX4_needRow cX4_needRow 2 none ∈ AL := al_in 457 (by decide +kernel) rfl
theorem ml_X4_215 : Cond.methodLink RX4 215 yX2_hasRow ∈ AL := al_in 458 (by decide +kernel) rfl
theorem im_X2_hasRow : Cond.instanceMethod yX2_hasRow ∈ AL := al_in 459 (by decide +kernel) rfl
theorem se_X2_hasRow : Cond.selects RX2 yX2_hasRow yX2_hasRow ∈ AL := al_in 460 (by decide +kernel) rfl
theorem co_X2_hasRow : Cond.code yX2_hasRow cX2_hasRow 2 (some .boolean) ∈ AL := al_in 461 (by decide +kernel) rfl
theorem ml_X4_100 : Cond.methodLink RX4 100 yX2_countFree ∈ AL := al_in 463 (by decide +kernel) rfl
theorem im_X2_countFree : Cond.instanceMethod yX2_countFree ∈ AL := al_in 464 (by decide +kernel) rfl
theorem se_X2_countFree : Cond.selects RX2 yX2_countFree yX2_countFree ∈ AL := al_in 465 (by decide +kernel) rfl
theorem co_X2_countFree : Cond.code yX2_countFree cX2_countFree 4 (some .int) ∈ AL := al_in 466 (by decide +kernel) rfl
theorem ml_L_133 : Cond.methodLink RL 133 yL_bestBlock ∈ AL := al_in 467 (by decide +kernel) rfl
theorem st_L_bestBlock : Cond.static yL_bestBlock ∈ AL := al_in 468 (by decide +kernel) rfl
theorem co_L_bestBlock : Cond.codeWith yL_bestBlock cL_bestBlock 4 (some .int) [(0, 9, 12, 13), (0, 9, 15, 15)] ∈ AL := al_in 469 (by decide +kernel) rfl
theorem ml_L_37 : Cond.methodLink RL 37 yX4_bestBlock ∈ AL := al_in 470 (by decide +kernel) rfl
theorem im_X4_bestBlock : Cond.instanceMethod yX4_bestBlock ∈ AL := al_in 471 (by decide +kernel) rfl
theorem se_X4_bestBlock : Cond.selects RX4 yX4_bestBlock yX4_bestBlock ∈ AL := al_in 472 (by decide +kernel) rfl
theorem co_X4_bestBlock : Cond.code yX4_bestBlock cX4_bestBlock 2 (some .int) ∈ AL := al_in 473 (by decide +kernel) rfl
theorem ml_X4_109 : Cond.methodLink RX4 109 yX4_needBest ∈ AL := al_in 474 (by decide +kernel) rfl
theorem im_X4_needBest : Cond.instanceMethod yX4_needBest ∈ AL := al_in 476 (by decide +kernel) rfl
theorem co_X4_needBest : Cond.code yX4_needBest cX4_needBest 3 (some .int) ∈ AL := al_in 477 (by decide +kernel) rfl
theorem ml_X4_243 : Cond.methodLink RX4 243 yX2_greatestOfAll ∈ AL := al_in 478 (by decide +kernel) rfl
theorem im_X2_greatestOfAll : Cond.instanceMethod yX2_greatestOfAll ∈ AL := al_in 479 (by decide +kernel) rfl
theorem se_X2_greatestOfAll : Cond.selects RX2 yX2_greatestOfAll yX2_greatestOfAll ∈ AL := al_in 480 (by decide +kernel) rfl
theorem co_X2_greatestOfAll : Cond.code yX2_greatestOfAll cX2_greatestOfAll 8 (some .int) ∈ AL := al_in 481 (by decide +kernel) rfl
theorem ml_X2_67 : Cond.methodLink RX2 67 yX2_greatestIn ∈ AL := al_in 482 (by decide +kernel) rfl
theorem im_X2_greatestIn : Cond.instanceMethod yX2_greatestIn ∈ AL := al_in 483 (by decide +kernel) rfl
theorem se_X2_greatestIn : Cond.selects RX2 yX2_greatestIn yX2_greatestIn ∈ AL := al_in 484 (by decide +kernel) rfl
theorem co_X2_greatestIn : Cond.code yX2_greatestIn cX2_greatestIn 9 (some .int) ∈ AL := al_in 485 (by decide +kernel) rfl
theorem ml_X2_56 : Cond.methodLink RX2 56 yX2_isPossible ∈ AL := al_in 486 (by decide +kernel) rfl
theorem im_X2_isPossible : Cond.instanceMethod yX2_isPossible ∈ AL := al_in 487 (by decide +kernel) rfl
theorem se_X2_isPossible : Cond.selects RX2 yX2_isPossible yX2_isPossible ∈ AL := al_in 488 (by decide +kernel) rfl
theorem co_X2_isPossible : Cond.code yX2_isPossible cX2_isPossible 5 (some .boolean) ∈ AL := al_in 489 (by decide +kernel) rfl
theorem ml_X2_60 : Cond.methodLink RX2 60 yX2_orphanBeside ∈ AL := al_in 490 (by decide +kernel) rfl
theorem im_X2_orphanBeside : Cond.instanceMethod yX2_orphanBeside ∈ AL := al_in 491 (by decide +kernel) rfl
theorem se_X2_orphanBeside : Cond.selects RX2 yX2_orphanBeside yX2_orphanBeside ∈ AL := al_in 492 (by decide +kernel) rfl
theorem co_X2_orphanBeside : Cond.code yX2_orphanBeside cX2_orphanBeside 6 (some .boolean) ∈ AL := al_in 493 (by decide +kernel) rfl
theorem ml_X2_63 : Cond.methodLink RX2 63 yX2_blockValue ∈ AL := al_in 494 (by decide +kernel) rfl
theorem im_X2_blockValue : Cond.instanceMethod yX2_blockValue ∈ AL := al_in 495 (by decide +kernel) rfl
theorem se_X2_blockValue : Cond.selects RX2 yX2_blockValue yX2_blockValue ∈ AL := al_in 496 (by decide +kernel) rfl
theorem co_X2_blockValue : Cond.code yX2_blockValue cX2_blockValue 6 (some .int) ∈ AL := al_in 497 (by decide +kernel) rfl
theorem ml_X2_53 : Cond.methodLink RX2 53 yX2_seatValue ∈ AL := al_in 498 (by decide +kernel) rfl
theorem ml_L_136 : Cond.methodLink RL 136 yL_leavesOrphan ∈ AL := al_in 500 (by decide +kernel) rfl
theorem st_L_leavesOrphan : Cond.static yL_leavesOrphan ∈ AL := al_in 501 (by decide +kernel) rfl
theorem co_L_leavesOrphan : Cond.codeWith yL_leavesOrphan cL_leavesOrphan 4 (some .int) [(0, 16, 19, 13), (0, 16, 22, 15)] ∈ AL := al_in 502 (by decide +kernel) rfl
theorem ml_L_40 : Cond.methodLink RL 40 yX4_leavesOrphan ∈ AL := al_in 503 (by decide +kernel) rfl
theorem im_X4_leavesOrphan : Cond.instanceMethod yX4_leavesOrphan ∈ AL := al_in 504 (by decide +kernel) rfl
theorem se_X4_leavesOrphan : Cond.selects RX4 yX4_leavesOrphan yX4_leavesOrphan ∈ AL := al_in 505 (by decide +kernel) rfl
theorem co_X4_leavesOrphan : Cond.code yX4_leavesOrphan cX4_leavesOrphan 3 (some .boolean) ∈ AL := al_in 506 (by decide +kernel) rfl
theorem ml_X4_112 : Cond.methodLink RX4 112 yX2_orphanBeside ∈ AL := al_in 507 (by decide +kernel) rfl
theorem ml_L_139 : Cond.methodLink RL 139 yL_hold ∈ AL := al_in 508 (by decide +kernel) rfl
theorem st_L_hold : Cond.static yL_hold ∈ AL := al_in 509 (by decide +kernel) rfl
theorem co_L_hold : Cond.codeWith yL_hold cL_hold 5 (some .int) [(0, 10, 13, 13), (0, 10, 17, 15)] ∈ AL := al_in 510 (by decide +kernel) rfl
theorem ml_L_44 : Cond.methodLink RL 44 yX4_hold ∈ AL := al_in 511 (by decide +kernel) rfl
theorem im_X4_hold : Cond.instanceMethod yX4_hold ∈ AL := al_in 512 (by decide +kernel) rfl
theorem se_X4_hold : Cond.selects RX4 yX4_hold yX4_hold ∈ AL := al_in 513 (by decide +kernel) rfl
theorem co_X4_hold : Cond.code yX4_hold cX4_hold 4 (some .int) ∈ AL := al_in 514 (by decide +kernel) rfl
theorem ml_X4_116 : Cond.methodLink RX4 116 yX4_needMinutes ∈ AL := al_in 515 (by decide +kernel) rfl
theorem st_X4_needMinutes : Cond.static yX4_needMinutes ∈ AL := al_in 516 (by decide +kernel) rfl
theorem co_X4_needMinutes : Cond.code yX4_needMinutes cX4_needMinutes 1 none ∈ AL := al_in 517 (by decide +kernel) rfl
theorem ml_X4_119 : Cond.methodLink RX4 119 yX4_needTicketLeft ∈ AL := al_in 518 (by decide +kernel) rfl
theorem im_X4_needTicketLeft : Cond.instanceMethod yX4_needTicketLeft ∈ AL := al_in 520 (by decide +kernel) rfl
theorem co_X4_needTicketLeft : Cond.code yX4_needTicketLeft cX4_needTicketLeft 1 none ∈ AL := al_in 521 (by decide +kernel) rfl
theorem ml_X4_122 : Cond.methodLink RX4 122 yX4_grantBlock ∈ AL := al_in 523 (by decide +kernel) rfl
theorem im_X4_grantBlock : Cond.instanceMethod yX4_grantBlock ∈ AL := al_in 525 (by decide +kernel) rfl
theorem co_X4_grantBlock : Cond.code yX4_grantBlock cX4_grantBlock 6 (some .int) ∈ AL := al_in 526 (by decide +kernel) rfl
theorem ml_X4_252 : Cond.methodLink RX4 252 yX3_open ∈ AL := al_in 527 (by decide +kernel) rfl
theorem im_X3_open : Cond.instanceMethod yX3_open ∈ AL := al_in 528 (by decide +kernel) rfl
theorem se_X3_open : Cond.selects RX3 yX3_open yX3_open ∈ AL := al_in 529 (by decide +kernel) rfl
theorem co_X3_open : Cond.code yX3_open cX3_open 3 (some .int) ∈ AL := al_in 530 (by decide +kernel) rfl
theorem ml_X4_255 : Cond.methodLink RX4 255 yX3_putAt ∈ AL := al_in 531 (by decide +kernel) rfl
theorem im_X3_putAt : Cond.instanceMethod yX3_putAt ∈ AL := al_in 532 (by decide +kernel) rfl
theorem se_X3_putAt : Cond.selects RX3 yX3_putAt yX3_putAt ∈ AL := al_in 533 (by decide +kernel) rfl
theorem co_X3_putAt : Cond.code yX3_putAt cX3_putAt 4 none ∈ AL := al_in 534 (by decide +kernel) rfl
theorem ml_L_142 : Cond.methodLink RL 142 yL_holdAt ∈ AL := al_in 535 (by decide +kernel) rfl
theorem st_L_holdAt : Cond.static yL_holdAt ∈ AL := al_in 536 (by decide +kernel) rfl
theorem co_L_holdAt : Cond.codeWith yL_holdAt cL_holdAt 7 (some .int) [(0, 14, 17, 21), (0, 14, 21, 13), (0, 14, 25, 15)] ∈ AL := al_in 537 (by decide +kernel) rfl
theorem ml_L_47 : Cond.methodLink RL 47 yX4_holdAt ∈ AL := al_in 538 (by decide +kernel) rfl
theorem im_X4_holdAt : Cond.instanceMethod yX4_holdAt ∈ AL := al_in 539 (by decide +kernel) rfl
theorem se_X4_holdAt : Cond.selects RX4 yX4_holdAt yX4_holdAt ∈ AL := al_in 540 (by decide +kernel) rfl
theorem co_X4_holdAt : Cond.code yX4_holdAt cX4_holdAt 5 (some .int) ∈ AL := al_in 541 (by decide +kernel) rfl
theorem ml_X4_126 : Cond.methodLink RX4 126 yX2_isPossible ∈ AL := al_in 542 (by decide +kernel) rfl
theorem ml_L_146 : Cond.methodLink RL 146 yL_rowsForGroup ∈ AL := al_in 544 (by decide +kernel) rfl
theorem st_L_rowsForGroup : Cond.static yL_rowsForGroup ∈ AL := al_in 545 (by decide +kernel) rfl
theorem co_L_rowsForGroup : Cond.codeWith yL_rowsForGroup cL_rowsForGroup 4 (some .int) [(0, 9, 12, 13), (0, 9, 15, 15)] ∈ AL := al_in 546 (by decide +kernel) rfl
theorem ml_L_51 : Cond.methodLink RL 51 yX4_rowsForGroup ∈ AL := al_in 547 (by decide +kernel) rfl
theorem im_X4_rowsForGroup : Cond.instanceMethod yX4_rowsForGroup ∈ AL := al_in 548 (by decide +kernel) rfl
theorem se_X4_rowsForGroup : Cond.selects RX4 yX4_rowsForGroup yX4_rowsForGroup ∈ AL := al_in 549 (by decide +kernel) rfl
theorem co_X4_rowsForGroup : Cond.code yX4_rowsForGroup cX4_rowsForGroup 2 (some .int) ∈ AL := al_in 550 (by decide +kernel) rfl
theorem ml_X4_131 : Cond.methodLink RX4 131 yX4_needPeople ∈ AL := al_in 551 (by decide +kernel) rfl
theorem st_X4_needPeople : Cond.static yX4_needPeople ∈ AL := al_in 552 (by decide +kernel) rfl
theorem co_X4_needPeople : Cond.code yX4_needPeople cX4_needPeople 1 none ∈ AL := al_in 553 (by decide +kernel) rfl
theorem ml_X4_134 : Cond.methodLink RX4 134 yX4_needSplit ∈ AL := al_in 554 (by decide +kernel) rfl
theorem im_X4_needSplit : Cond.instanceMethod yX4_needSplit ∈ AL := al_in 556 (by decide +kernel) rfl
theorem co_X4_needSplit : Cond.code yX4_needSplit cX4_needSplit 2 none ∈ AL := al_in 557 (by decide +kernel) rfl
theorem ml_X4_249 : Cond.methodLink RX4 249 yX1_find ∈ AL := al_in 558 (by decide +kernel) rfl
theorem im_X1_find : Cond.instanceMethod yX1_find ∈ AL := al_in 559 (by decide +kernel) rfl
theorem se_X1_find : Cond.selects RX1 yX1_find yX1_find ∈ AL := al_in 560 (by decide +kernel) rfl
theorem co_X1_find : Cond.code yX1_find cX1_find 4 (some .boolean) ∈ AL := al_in 561 (by decide +kernel) rfl
theorem ml_X1_46 : Cond.methodLink RX1 46 yX1_startBehindLastRow ∈ AL := al_in 562 (by decide +kernel) rfl
theorem im_X1_startBehindLastRow : Cond.instanceMethod yX1_startBehindLastRow ∈ AL := al_in 564 (by decide +kernel) rfl
theorem co_X1_startBehindLastRow : Cond.code yX1_startBehindLastRow cX1_startBehindLastRow 4 none ∈ AL := al_in 565 (by decide +kernel) rfl
theorem ml_X1_50 : Cond.methodLink RX1 50 yX2_rowCount ∈ AL := al_in 566 (by decide +kernel) rfl
theorem ml_X1_54 : Cond.methodLink RX1 54 yX1_readBlocks ∈ AL := al_in 567 (by decide +kernel) rfl
theorem im_X1_readBlocks : Cond.instanceMethod yX1_readBlocks ∈ AL := al_in 569 (by decide +kernel) rfl
theorem co_X1_readBlocks : Cond.code yX1_readBlocks cX1_readBlocks 4 none ∈ AL := al_in 570 (by decide +kernel) rfl
theorem ml_X1_64 : Cond.methodLink RX1 64 yX2_longestFreeIn ∈ AL := al_in 571 (by decide +kernel) rfl
theorem ml_X1_68 : Cond.methodLink RX1 68 yX2_greatestIn ∈ AL := al_in 572 (by decide +kernel) rfl
theorem ml_X1_72 : Cond.methodLink RX1 72 yX2_blockValue ∈ AL := al_in 573 (by decide +kernel) rfl
theorem ml_X1_57 : Cond.methodLink RX1 57 yX1_decide ∈ AL := al_in 574 (by decide +kernel) rfl
theorem im_X1_decide : Cond.instanceMethod yX1_decide ∈ AL := al_in 576 (by decide +kernel) rfl
theorem co_X1_decide : Cond.code yX1_decide cX1_decide 10 none ∈ AL := al_in 577 (by decide +kernel) rfl
theorem ml_X1_76 : Cond.methodLink RX1 76 Lib.Math.min.name ∈ AL := al_in 578 (by decide +kernel) rfl
theorem st_Math_min : Cond.static Lib.Math.min.name ∈ AL := al_in 579 (by decide +kernel) rfl
theorem co_Math_min : Cond.code Lib.Math.min.name Lib.Math.min.code 2 (some .int) ∈ AL := al_in 580 (by decide +kernel) rfl
theorem ml_X1_61 : Cond.methodLink RX1 61 yX1_takeFromRows ∈ AL := al_in 581 (by decide +kernel) rfl
theorem im_X1_takeFromRows : Cond.instanceMethod yX1_takeFromRows ∈ AL := al_in 583 (by decide +kernel) rfl
theorem co_X1_takeFromRows : Cond.code yX1_takeFromRows cX1_takeFromRows 4 none ∈ AL := al_in 584 (by decide +kernel) rfl
theorem ml_X1_82 : Cond.methodLink RX1 82 yX1_mostSeats ∈ AL := al_in 585 (by decide +kernel) rfl
theorem im_X1_mostSeats : Cond.instanceMethod yX1_mostSeats ∈ AL := al_in 587 (by decide +kernel) rfl
theorem co_X1_mostSeats : Cond.code yX1_mostSeats cX1_mostSeats 4 (some .int) ∈ AL := al_in 588 (by decide +kernel) rfl
theorem ml_X1_85 : Cond.methodLink RX1 85 yX1_keepsBest ∈ AL := al_in 589 (by decide +kernel) rfl
theorem im_X1_keepsBest : Cond.instanceMethod yX1_keepsBest ∈ AL := al_in 591 (by decide +kernel) rfl
theorem co_X1_keepsBest : Cond.code yX1_keepsBest cX1_keepsBest 4 (some .boolean) ∈ AL := al_in 592 (by decide +kernel) rfl
theorem ml_X4_137 : Cond.methodLink RX4 137 yX1_rowsUsed ∈ AL := al_in 594 (by decide +kernel) rfl
theorem im_X1_rowsUsed : Cond.instanceMethod yX1_rowsUsed ∈ AL := al_in 595 (by decide +kernel) rfl
theorem se_X1_rowsUsed : Cond.selects RX1 yX1_rowsUsed yX1_rowsUsed ∈ AL := al_in 596 (by decide +kernel) rfl
theorem co_X1_rowsUsed : Cond.code yX1_rowsUsed cX1_rowsUsed 1 (some .int) ∈ AL := al_in 597 (by decide +kernel) rfl
theorem ml_L_149 : Cond.methodLink RL 149 yL_seatsForGroup ∈ AL := al_in 598 (by decide +kernel) rfl
theorem st_L_seatsForGroup : Cond.static yL_seatsForGroup ∈ AL := al_in 599 (by decide +kernel) rfl
theorem co_L_seatsForGroup : Cond.codeWith yL_seatsForGroup cL_seatsForGroup 5 (some .int) [(0, 10, 13, 21), (0, 10, 17, 13), (0, 10, 21, 15)] ∈ AL := al_in 600 (by decide +kernel) rfl
theorem ml_L_54 : Cond.methodLink RL 54 yX4_seatsForGroup ∈ AL := al_in 601 (by decide +kernel) rfl
theorem im_X4_seatsForGroup : Cond.instanceMethod yX4_seatsForGroup ∈ AL := al_in 602 (by decide +kernel) rfl
theorem se_X4_seatsForGroup : Cond.selects RX4 yX4_seatsForGroup yX4_seatsForGroup ∈ AL := al_in 603 (by decide +kernel) rfl
theorem co_X4_seatsForGroup : Cond.code yX4_seatsForGroup cX4_seatsForGroup 3 (some .int) ∈ AL := al_in 604 (by decide +kernel) rfl
theorem ml_X4_140 : Cond.methodLink RX4 140 yX1_seatsFrom ∈ AL := al_in 605 (by decide +kernel) rfl
theorem im_X1_seatsFrom : Cond.instanceMethod yX1_seatsFrom ∈ AL := al_in 606 (by decide +kernel) rfl
theorem se_X1_seatsFrom : Cond.selects RX1 yX1_seatsFrom yX1_seatsFrom ∈ AL := al_in 607 (by decide +kernel) rfl
theorem co_X1_seatsFrom : Cond.code yX1_seatsFrom cX1_seatsFrom 2 (some .int) ∈ AL := al_in 608 (by decide +kernel) rfl
theorem ml_X1_40 : Cond.methodLink RX1 40 yX2_hasRow ∈ AL := al_in 609 (by decide +kernel) rfl
theorem ml_L_152 : Cond.methodLink RL 152 yL_holdGroup ∈ AL := al_in 610 (by decide +kernel) rfl
theorem st_L_holdGroup : Cond.static yL_holdGroup ∈ AL := al_in 611 (by decide +kernel) rfl
theorem co_L_holdGroup : Cond.codeWith yL_holdGroup cL_holdGroup 5 (some .int) [(0, 10, 13, 13), (0, 10, 17, 15)] ∈ AL := al_in 612 (by decide +kernel) rfl
theorem ml_L_57 : Cond.methodLink RL 57 yX4_holdGroup ∈ AL := al_in 613 (by decide +kernel) rfl
theorem im_X4_holdGroup : Cond.instanceMethod yX4_holdGroup ∈ AL := al_in 614 (by decide +kernel) rfl
theorem se_X4_holdGroup : Cond.selects RX4 yX4_holdGroup yX4_holdGroup ∈ AL := al_in 615 (by decide +kernel) rfl
theorem co_X4_holdGroup : Cond.code yX4_holdGroup cX4_holdGroup 3 (some .int) ∈ AL := al_in 616 (by decide +kernel) rfl
theorem ml_X4_143 : Cond.methodLink RX4 143 yX4_grantSplit ∈ AL := al_in 617 (by decide +kernel) rfl
theorem im_X4_grantSplit : Cond.instanceMethod yX4_grantSplit ∈ AL := al_in 619 (by decide +kernel) rfl
theorem co_X4_grantSplit : Cond.code yX4_grantSplit cX4_grantSplit 8 (some .int) ∈ AL := al_in 620 (by decide +kernel) rfl
theorem ml_X4_258 : Cond.methodLink RX4 258 yX1_firstIn ∈ AL := al_in 621 (by decide +kernel) rfl
theorem im_X1_firstIn : Cond.instanceMethod yX1_firstIn ∈ AL := al_in 622 (by decide +kernel) rfl
theorem se_X1_firstIn : Cond.selects RX1 yX1_firstIn yX1_firstIn ∈ AL := al_in 623 (by decide +kernel) rfl
theorem co_X1_firstIn : Cond.code yX1_firstIn cX1_firstIn 2 (some .int) ∈ AL := al_in 624 (by decide +kernel) rfl
theorem ml_L_159 : Cond.methodLink RL 159 yL_ticketState ∈ AL := al_in 625 (by decide +kernel) rfl
theorem st_L_ticketState : Cond.static yL_ticketState ∈ AL := al_in 626 (by decide +kernel) rfl
theorem co_L_ticketState : Cond.codeWith yL_ticketState cL_ticketState 4 (some .int) [(0, 9, 12, 21)] ∈ AL := al_in 627 (by decide +kernel) rfl
theorem ml_L_60 : Cond.methodLink RL 60 yX4_ticketState ∈ AL := al_in 628 (by decide +kernel) rfl
theorem im_X4_ticketState : Cond.instanceMethod yX4_ticketState ∈ AL := al_in 629 (by decide +kernel) rfl
theorem se_X4_ticketState : Cond.selects RX4 yX4_ticketState yX4_ticketState ∈ AL := al_in 630 (by decide +kernel) rfl
theorem co_X4_ticketState : Cond.code yX4_ticketState cX4_ticketState 2 (some .int) ∈ AL := al_in 631 (by decide +kernel) rfl
theorem ml_X4_149 : Cond.methodLink RX4 149 yX4_needTicket ∈ AL := al_in 632 (by decide +kernel) rfl
theorem im_X4_needTicket : Cond.instanceMethod yX4_needTicket ∈ AL := al_in 634 (by decide +kernel) rfl
theorem co_X4_needTicket : Cond.code yX4_needTicket cX4_needTicket 2 none ∈ AL := al_in 635 (by decide +kernel) rfl
theorem ml_X4_229 : Cond.methodLink RX4 229 yX3_hasTicket ∈ AL := al_in 636 (by decide +kernel) rfl
theorem ml_L_162 : Cond.methodLink RL 162 yL_seatsOf ∈ AL := al_in 638 (by decide +kernel) rfl
theorem st_L_seatsOf : Cond.static yL_seatsOf ∈ AL := al_in 639 (by decide +kernel) rfl
theorem co_L_seatsOf : Cond.codeWith yL_seatsOf cL_seatsOf 4 (some .int) [(0, 9, 12, 21)] ∈ AL := al_in 640 (by decide +kernel) rfl
theorem ml_L_63 : Cond.methodLink RL 63 yX4_seatsOf ∈ AL := al_in 641 (by decide +kernel) rfl
theorem im_X4_seatsOf : Cond.instanceMethod yX4_seatsOf ∈ AL := al_in 642 (by decide +kernel) rfl
theorem se_X4_seatsOf : Cond.selects RX4 yX4_seatsOf yX4_seatsOf ∈ AL := al_in 643 (by decide +kernel) rfl
theorem co_X4_seatsOf : Cond.code yX4_seatsOf cX4_seatsOf 2 (some .int) ∈ AL := al_in 644 (by decide +kernel) rfl
theorem ml_X4_152 : Cond.methodLink RX4 152 yX3_isOpen ∈ AL := al_in 645 (by decide +kernel) rfl
theorem im_X3_isOpen : Cond.instanceMethod yX3_isOpen ∈ AL := al_in 646 (by decide +kernel) rfl
theorem se_X3_isOpen : Cond.selects RX3 yX3_isOpen yX3_isOpen ∈ AL := al_in 647 (by decide +kernel) rfl
theorem co_X3_isOpen : Cond.code yX3_isOpen cX3_isOpen 3 (some .boolean) ∈ AL := al_in 648 (by decide +kernel) rfl
theorem ml_X3_44 : Cond.methodLink RX3 44 yX3_stateOf ∈ AL := al_in 649 (by decide +kernel) rfl
theorem ml_X4_156 : Cond.methodLink RX4 156 yX3_sizeOf ∈ AL := al_in 650 (by decide +kernel) rfl
theorem im_X3_sizeOf : Cond.instanceMethod yX3_sizeOf ∈ AL := al_in 651 (by decide +kernel) rfl
theorem se_X3_sizeOf : Cond.selects RX3 yX3_sizeOf yX3_sizeOf ∈ AL := al_in 652 (by decide +kernel) rfl
theorem co_X3_sizeOf : Cond.code yX3_sizeOf cX3_sizeOf 2 (some .int) ∈ AL := al_in 653 (by decide +kernel) rfl
theorem ml_L_165 : Cond.methodLink RL 165 yL_priceOf ∈ AL := al_in 654 (by decide +kernel) rfl
theorem st_L_priceOf : Cond.static yL_priceOf ∈ AL := al_in 655 (by decide +kernel) rfl
theorem co_L_priceOf : Cond.codeWith yL_priceOf cL_priceOf 4 (some .int) [(0, 9, 12, 21)] ∈ AL := al_in 656 (by decide +kernel) rfl
theorem ml_L_66 : Cond.methodLink RL 66 yX4_priceOf ∈ AL := al_in 657 (by decide +kernel) rfl
theorem im_X4_priceOf : Cond.instanceMethod yX4_priceOf ∈ AL := al_in 658 (by decide +kernel) rfl
theorem se_X4_priceOf : Cond.selects RX4 yX4_priceOf yX4_priceOf ∈ AL := al_in 659 (by decide +kernel) rfl
theorem co_X4_priceOf : Cond.code yX4_priceOf cX4_priceOf 2 (some .int) ∈ AL := al_in 660 (by decide +kernel) rfl
theorem ml_X4_159 : Cond.methodLink RX4 159 yX2_priceOwnedBy ∈ AL := al_in 661 (by decide +kernel) rfl
theorem im_X2_priceOwnedBy : Cond.instanceMethod yX2_priceOwnedBy ∈ AL := al_in 662 (by decide +kernel) rfl
theorem se_X2_priceOwnedBy : Cond.selects RX2 yX2_priceOwnedBy yX2_priceOwnedBy ∈ AL := al_in 663 (by decide +kernel) rfl
theorem co_X2_priceOwnedBy : Cond.code yX2_priceOwnedBy cX2_priceOwnedBy 5 (some .int) ∈ AL := al_in 664 (by decide +kernel) rfl
theorem ml_L_168 : Cond.methodLink RL 168 yL_extend ∈ AL := al_in 665 (by decide +kernel) rfl
theorem st_L_extend : Cond.static yL_extend ∈ AL := al_in 666 (by decide +kernel) rfl
theorem co_L_extend : Cond.codeWith yL_extend cL_extend 5 (some .int) [(0, 10, 13, 21), (0, 10, 17, 13), (0, 10, 21, 15)] ∈ AL := al_in 667 (by decide +kernel) rfl
theorem ml_L_69 : Cond.methodLink RL 69 yX4_extend ∈ AL := al_in 668 (by decide +kernel) rfl
theorem im_X4_extend : Cond.instanceMethod yX4_extend ∈ AL := al_in 669 (by decide +kernel) rfl
theorem se_X4_extend : Cond.selects RX4 yX4_extend yX4_extend ∈ AL := al_in 670 (by decide +kernel) rfl
theorem co_X4_extend : Cond.code yX4_extend cX4_extend 3 (some .int) ∈ AL := al_in 671 (by decide +kernel) rfl
theorem ml_X4_162 : Cond.methodLink RX4 162 yX4_needHold ∈ AL := al_in 672 (by decide +kernel) rfl
theorem im_X4_needHold : Cond.instanceMethod yX4_needHold ∈ AL := al_in 674 (by decide +kernel) rfl
theorem co_X4_needHold : Cond.code yX4_needHold cX4_needHold 2 none ∈ AL := al_in 675 (by decide +kernel) rfl
theorem ml_X4_165 : Cond.methodLink RX4 165 yX3_extensionsOf ∈ AL := al_in 677 (by decide +kernel) rfl
theorem im_X3_extensionsOf : Cond.instanceMethod yX3_extensionsOf ∈ AL := al_in 678 (by decide +kernel) rfl
theorem se_X3_extensionsOf : Cond.selects RX3 yX3_extensionsOf yX3_extensionsOf ∈ AL := al_in 679 (by decide +kernel) rfl
theorem co_X3_extensionsOf : Cond.code yX3_extensionsOf cX3_extensionsOf 2 (some .int) ∈ AL := al_in 680 (by decide +kernel) rfl
theorem ml_X4_170 : Cond.methodLink RX4 170 yX3_prolong ∈ AL := al_in 682 (by decide +kernel) rfl
theorem im_X3_prolong : Cond.instanceMethod yX3_prolong ∈ AL := al_in 683 (by decide +kernel) rfl
theorem se_X3_prolong : Cond.selects RX3 yX3_prolong yX3_prolong ∈ AL := al_in 684 (by decide +kernel) rfl
theorem co_X3_prolong : Cond.code yX3_prolong cX3_prolong 3 none ∈ AL := al_in 685 (by decide +kernel) rfl
theorem ml_L_171 : Cond.methodLink RL 171 yL_pay ∈ AL := al_in 686 (by decide +kernel) rfl
theorem st_L_pay : Cond.static yL_pay ∈ AL := al_in 687 (by decide +kernel) rfl
theorem co_L_pay : Cond.codeWith yL_pay cL_pay 4 (some .int) [(0, 9, 12, 21), (0, 9, 15, 15)] ∈ AL := al_in 688 (by decide +kernel) rfl
theorem ml_L_72 : Cond.methodLink RL 72 yX4_pay ∈ AL := al_in 689 (by decide +kernel) rfl
theorem im_X4_pay : Cond.instanceMethod yX4_pay ∈ AL := al_in 690 (by decide +kernel) rfl
theorem se_X4_pay : Cond.selects RX4 yX4_pay yX4_pay ∈ AL := al_in 691 (by decide +kernel) rfl
theorem co_X4_pay : Cond.code yX4_pay cX4_pay 3 (some .int) ∈ AL := al_in 692 (by decide +kernel) rfl
theorem ml_X4_173 : Cond.methodLink RX4 173 yX3_turnIntoBooking ∈ AL := al_in 693 (by decide +kernel) rfl
theorem im_X3_turnIntoBooking : Cond.instanceMethod yX3_turnIntoBooking ∈ AL := al_in 694 (by decide +kernel) rfl
theorem se_X3_turnIntoBooking : Cond.selects RX3 yX3_turnIntoBooking yX3_turnIntoBooking ∈ AL := al_in 695 (by decide +kernel) rfl
theorem co_X3_turnIntoBooking : Cond.code yX3_turnIntoBooking cX3_turnIntoBooking 3 none ∈ AL := al_in 696 (by decide +kernel) rfl
theorem ml_L_174 : Cond.methodLink RL 174 yL_cancel ∈ AL := al_in 697 (by decide +kernel) rfl
theorem st_L_cancel : Cond.static yL_cancel ∈ AL := al_in 698 (by decide +kernel) rfl
theorem co_L_cancel : Cond.codeWith yL_cancel cL_cancel 4 (some .int) [(0, 9, 12, 21), (0, 9, 15, 15)] ∈ AL := al_in 699 (by decide +kernel) rfl
theorem ml_L_75 : Cond.methodLink RL 75 yX4_cancel ∈ AL := al_in 700 (by decide +kernel) rfl
theorem im_X4_cancel : Cond.instanceMethod yX4_cancel ∈ AL := al_in 701 (by decide +kernel) rfl
theorem se_X4_cancel : Cond.selects RX4 yX4_cancel yX4_cancel ∈ AL := al_in 702 (by decide +kernel) rfl
theorem co_X4_cancel : Cond.code yX4_cancel cX4_cancel 3 (some .int) ∈ AL := al_in 703 (by decide +kernel) rfl
theorem ml_X4_178 : Cond.methodLink RX4 178 yX3_paidFor ∈ AL := al_in 705 (by decide +kernel) rfl
theorem im_X3_paidFor : Cond.instanceMethod yX3_paidFor ∈ AL := al_in 706 (by decide +kernel) rfl
theorem se_X3_paidFor : Cond.selects RX3 yX3_paidFor yX3_paidFor ∈ AL := al_in 707 (by decide +kernel) rfl
theorem co_X3_paidFor : Cond.code yX3_paidFor cX3_paidFor 2 (some .int) ∈ AL := al_in 708 (by decide +kernel) rfl
theorem ml_X4_181 : Cond.methodLink RX4 181 yX4_closeTicket ∈ AL := al_in 709 (by decide +kernel) rfl
theorem im_X4_closeTicket : Cond.instanceMethod yX4_closeTicket ∈ AL := al_in 711 (by decide +kernel) rfl
theorem co_X4_closeTicket : Cond.code yX4_closeTicket cX4_closeTicket 3 none ∈ AL := al_in 712 (by decide +kernel) rfl
theorem ml_X4_261 : Cond.methodLink RX4 261 yX2_freeOwnedBy ∈ AL := al_in 713 (by decide +kernel) rfl
theorem im_X2_freeOwnedBy : Cond.instanceMethod yX2_freeOwnedBy ∈ AL := al_in 714 (by decide +kernel) rfl
theorem se_X2_freeOwnedBy : Cond.selects RX2 yX2_freeOwnedBy yX2_freeOwnedBy ∈ AL := al_in 715 (by decide +kernel) rfl
theorem co_X2_freeOwnedBy : Cond.code yX2_freeOwnedBy cX2_freeOwnedBy 4 none ∈ AL := al_in 716 (by decide +kernel) rfl
theorem ml_X4_264 : Cond.methodLink RX4 264 yX3_close ∈ AL := al_in 717 (by decide +kernel) rfl
theorem im_X3_close : Cond.instanceMethod yX3_close ∈ AL := al_in 718 (by decide +kernel) rfl
theorem se_X3_close : Cond.selects RX3 yX3_close yX3_close ∈ AL := al_in 719 (by decide +kernel) rfl
theorem co_X3_close : Cond.code yX3_close cX3_close 3 none ∈ AL := al_in 720 (by decide +kernel) rfl
theorem ml_L_185 : Cond.methodLink RL 185 yL_pass ∈ AL := al_in 721 (by decide +kernel) rfl
theorem st_L_pass : Cond.static yL_pass ∈ AL := al_in 722 (by decide +kernel) rfl
theorem co_L_pass : Cond.codeWith yL_pass cL_pass 4 (some .int) [(0, 9, 12, 13)] ∈ AL := al_in 723 (by decide +kernel) rfl
theorem ml_L_78 : Cond.methodLink RL 78 yX4_pass ∈ AL := al_in 724 (by decide +kernel) rfl
theorem im_X4_pass : Cond.instanceMethod yX4_pass ∈ AL := al_in 725 (by decide +kernel) rfl
theorem se_X4_pass : Cond.selects RX4 yX4_pass yX4_pass ∈ AL := al_in 726 (by decide +kernel) rfl
theorem co_X4_pass : Cond.code yX4_pass cX4_pass 4 (some .int) ∈ AL := al_in 727 (by decide +kernel) rfl
theorem ml_X4_184 : Cond.methodLink RX4 184 yX3_endOf ∈ AL := al_in 728 (by decide +kernel) rfl
theorem im_X3_endOf : Cond.instanceMethod yX3_endOf ∈ AL := al_in 729 (by decide +kernel) rfl
theorem se_X3_endOf : Cond.selects RX3 yX3_endOf yX3_endOf ∈ AL := al_in 730 (by decide +kernel) rfl
theorem co_X3_endOf : Cond.code yX3_endOf cX3_endOf 2 (some .int) ∈ AL := al_in 731 (by decide +kernel) rfl
theorem ml_L_188 : Cond.methodLink RL 188 yL_nextExpiry ∈ AL := al_in 732 (by decide +kernel) rfl
theorem st_L_nextExpiry : Cond.static yL_nextExpiry ∈ AL := al_in 733 (by decide +kernel) rfl
theorem co_L_nextExpiry : Cond.codeWith yL_nextExpiry cL_nextExpiry 3 (some .int) [(0, 8, 11, 15)] ∈ AL := al_in 734 (by decide +kernel) rfl
theorem ml_L_81 : Cond.methodLink RL 81 yX4_nextExpiry ∈ AL := al_in 735 (by decide +kernel) rfl
theorem im_X4_nextExpiry : Cond.instanceMethod yX4_nextExpiry ∈ AL := al_in 736 (by decide +kernel) rfl
theorem se_X4_nextExpiry : Cond.selects RX4 yX4_nextExpiry yX4_nextExpiry ∈ AL := al_in 737 (by decide +kernel) rfl
theorem co_X4_nextExpiry : Cond.code yX4_nextExpiry cX4_nextExpiry 2 (some .int) ∈ AL := al_in 738 (by decide +kernel) rfl
theorem ml_X4_187 : Cond.methodLink RX4 187 yX3_earliestEnd ∈ AL := al_in 739 (by decide +kernel) rfl
theorem im_X3_earliestEnd : Cond.instanceMethod yX3_earliestEnd ∈ AL := al_in 740 (by decide +kernel) rfl
theorem se_X3_earliestEnd : Cond.selects RX3 yX3_earliestEnd yX3_earliestEnd ∈ AL := al_in 741 (by decide +kernel) rfl
theorem co_X3_earliestEnd : Cond.code yX3_earliestEnd cX3_earliestEnd 3 (some .int) ∈ AL := al_in 742 (by decide +kernel) rfl
theorem ml_L_192 : Cond.methodLink RL 192 yL_wish ∈ AL := al_in 744 (by decide +kernel) rfl
theorem st_L_wish : Cond.static yL_wish ∈ AL := al_in 745 (by decide +kernel) rfl
theorem co_L_wish : Cond.codeWith yL_wish cL_wish 5 (some .int) [(0, 10, 13, 21), (0, 10, 17, 15)] ∈ AL := al_in 746 (by decide +kernel) rfl
theorem ml_L_85 : Cond.methodLink RL 85 yX4_wish ∈ AL := al_in 747 (by decide +kernel) rfl
theorem im_X4_wish : Cond.instanceMethod yX4_wish ∈ AL := al_in 748 (by decide +kernel) rfl
theorem se_X4_wish : Cond.selects RX4 yX4_wish yX4_wish ∈ AL := al_in 749 (by decide +kernel) rfl
theorem co_X4_wish : Cond.code yX4_wish cX4_wish 5 (some .int) ∈ AL := al_in 750 (by decide +kernel) rfl
theorem ml_X4_194 : Cond.methodLink RX4 194 yX3_rowOf ∈ AL := al_in 752 (by decide +kernel) rfl
theorem im_X3_rowOf : Cond.instanceMethod yX3_rowOf ∈ AL := al_in 753 (by decide +kernel) rfl
theorem se_X3_rowOf : Cond.selects RX3 yX3_rowOf yX3_rowOf ∈ AL := al_in 754 (by decide +kernel) rfl
theorem co_X3_rowOf : Cond.code yX3_rowOf cX3_rowOf 2 (some .int) ∈ AL := al_in 755 (by decide +kernel) rfl
theorem ml_X4_199 : Cond.methodLink RX4 199 yX3_wishOf ∈ AL := al_in 757 (by decide +kernel) rfl
theorem im_X3_wishOf : Cond.instanceMethod yX3_wishOf ∈ AL := al_in 758 (by decide +kernel) rfl
theorem se_X3_wishOf : Cond.selects RX3 yX3_wishOf yX3_wishOf ∈ AL := al_in 759 (by decide +kernel) rfl
theorem co_X3_wishOf : Cond.code yX3_wishOf cX3_wishOf 2 (some .int) ∈ AL := al_in 760 (by decide +kernel) rfl
theorem ml_X4_202 : Cond.methodLink RX4 202 yX3_setWish ∈ AL := al_in 761 (by decide +kernel) rfl
theorem im_X3_setWish : Cond.instanceMethod yX3_setWish ∈ AL := al_in 762 (by decide +kernel) rfl
theorem se_X3_setWish : Cond.selects RX3 yX3_setWish yX3_setWish ∈ AL := al_in 763 (by decide +kernel) rfl
theorem co_X3_setWish : Cond.code yX3_setWish cX3_setWish 3 none ∈ AL := al_in 764 (by decide +kernel) rfl
theorem ml_L_195 : Cond.methodLink RL 195 yL_exchange ∈ AL := al_in 765 (by decide +kernel) rfl
theorem st_L_exchange : Cond.static yL_exchange ∈ AL := al_in 766 (by decide +kernel) rfl
theorem co_L_exchange : Cond.codeWith yL_exchange cL_exchange 4 (some .int) [(0, 9, 12, 21), (0, 9, 15, 15)] ∈ AL := al_in 767 (by decide +kernel) rfl
theorem ml_L_88 : Cond.methodLink RL 88 yX4_exchange ∈ AL := al_in 768 (by decide +kernel) rfl
theorem im_X4_exchange : Cond.instanceMethod yX4_exchange ∈ AL := al_in 769 (by decide +kernel) rfl
theorem se_X4_exchange : Cond.selects RX4 yX4_exchange yX4_exchange ∈ AL := al_in 770 (by decide +kernel) rfl
theorem co_X4_exchange : Cond.code yX4_exchange cX4_exchange 2 (some .int) ∈ AL := al_in 771 (by decide +kernel) rfl
theorem ml_X4_207 : Cond.methodLink RX4 207 yX0_find ∈ AL := al_in 773 (by decide +kernel) rfl
theorem im_X0_find : Cond.instanceMethod yX0_find ∈ AL := al_in 774 (by decide +kernel) rfl
theorem se_X0_find : Cond.selects RX0 yX0_find yX0_find ∈ AL := al_in 775 (by decide +kernel) rfl
theorem co_X0_find : Cond.code yX0_find cX0_find 3 (some .boolean) ∈ AL := al_in 776 (by decide +kernel) rfl
theorem ml_X0_33 : Cond.methodLink RX0 33 yX3_sizeOf ∈ AL := al_in 777 (by decide +kernel) rfl
theorem ml_X0_39 : Cond.methodLink RX0 39 yX3_rowOf ∈ AL := al_in 778 (by decide +kernel) rfl
theorem ml_X0_42 : Cond.methodLink RX0 42 yX0_markEnds ∈ AL := al_in 779 (by decide +kernel) rfl
theorem im_X0_markEnds : Cond.instanceMethod yX0_markEnds ∈ AL := al_in 781 (by decide +kernel) rfl
theorem co_X0_markEnds : Cond.code yX0_markEnds cX0_markEnds 4 none ∈ AL := al_in 782 (by decide +kernel) rfl
theorem ml_X0_46 : Cond.methodLink RX0 46 yX2_rowCount ∈ AL := al_in 783 (by decide +kernel) rfl
theorem ml_X0_69 : Cond.methodLink RX0 69 yX2_greatestIn ∈ AL := al_in 784 (by decide +kernel) rfl
theorem ml_X0_52 : Cond.methodLink RX0 52 yX0_shortenSteps ∈ AL := al_in 785 (by decide +kernel) rfl
theorem im_X0_shortenSteps : Cond.instanceMethod yX0_shortenSteps ∈ AL := al_in 787 (by decide +kernel) rfl
theorem co_X0_shortenSteps : Cond.code yX0_shortenSteps cX0_shortenSteps 4 none ∈ AL := al_in 788 (by decide +kernel) rfl
theorem ml_X0_73 : Cond.methodLink RX0 73 yX3_count ∈ AL := al_in 789 (by decide +kernel) rfl
theorem ml_X0_76 : Cond.methodLink RX0 76 yX0_takesPart ∈ AL := al_in 790 (by decide +kernel) rfl
theorem im_X0_takesPart : Cond.instanceMethod yX0_takesPart ∈ AL := al_in 792 (by decide +kernel) rfl
theorem co_X0_takesPart : Cond.code yX0_takesPart cX0_takesPart 2 (some .boolean) ∈ AL := al_in 793 (by decide +kernel) rfl
theorem ml_X0_55 : Cond.methodLink RX0 55 yX3_wishOf ∈ AL := al_in 794 (by decide +kernel) rfl
theorem ml_X0_65 : Cond.methodLink RX0 65 yX2_hasRow ∈ AL := al_in 795 (by decide +kernel) rfl
theorem ml_X0_58 : Cond.methodLink RX0 58 yX0_stepsOf ∈ AL := al_in 796 (by decide +kernel) rfl
theorem im_X0_stepsOf : Cond.instanceMethod yX0_stepsOf ∈ AL := al_in 798 (by decide +kernel) rfl
theorem co_X0_stepsOf : Cond.code yX0_stepsOf cX0_stepsOf 2 (some .int) ∈ AL := al_in 799 (by decide +kernel) rfl
theorem ml_X0_79 : Cond.methodLink RX0 79 Lib.Math.min.name ∈ AL := al_in 800 (by decide +kernel) rfl
theorem ml_X0_61 : Cond.methodLink RX0 61 yX0_collect ∈ AL := al_in 801 (by decide +kernel) rfl
theorem im_X0_collect : Cond.instanceMethod yX0_collect ∈ AL := al_in 803 (by decide +kernel) rfl
theorem co_X0_collect : Cond.code yX0_collect cX0_collect 5 none ∈ AL := al_in 804 (by decide +kernel) rfl
theorem ml_X0_85 : Cond.methodLink RX0 85 yX0_lowestIn ∈ AL := al_in 805 (by decide +kernel) rfl
theorem im_X0_lowestIn : Cond.instanceMethod yX0_lowestIn ∈ AL := al_in 807 (by decide +kernel) rfl
theorem co_X0_lowestIn : Cond.code yX0_lowestIn cX0_lowestIn 4 (some .int) ∈ AL := al_in 808 (by decide +kernel) rfl
theorem ml_X4_212 : Cond.methodLink RX4 212 yX0_carryOut ∈ AL := al_in 810 (by decide +kernel) rfl
theorem im_X0_carryOut : Cond.instanceMethod yX0_carryOut ∈ AL := al_in 811 (by decide +kernel) rfl
theorem se_X0_carryOut : Cond.selects RX0 yX0_carryOut yX0_carryOut ∈ AL := al_in 812 (by decide +kernel) rfl
theorem co_X0_carryOut : Cond.code yX0_carryOut cX0_carryOut 9 (some .int) ∈ AL := al_in 813 (by decide +kernel) rfl
theorem ml_X0_88 : Cond.methodLink RX0 88 yX3_firstOf ∈ AL := al_in 814 (by decide +kernel) rfl
theorem im_X3_firstOf : Cond.instanceMethod yX3_firstOf ∈ AL := al_in 815 (by decide +kernel) rfl
theorem se_X3_firstOf : Cond.selects RX3 yX3_firstOf yX3_firstOf ∈ AL := al_in 816 (by decide +kernel) rfl
theorem co_X3_firstOf : Cond.code yX3_firstOf cX3_firstOf 2 (some .int) ∈ AL := al_in 817 (by decide +kernel) rfl
theorem ml_X0_91 : Cond.methodLink RX0 91 yX2_give ∈ AL := al_in 818 (by decide +kernel) rfl
theorem ml_X0_95 : Cond.methodLink RX0 95 yX0_move ∈ AL := al_in 819 (by decide +kernel) rfl
theorem im_X0_move : Cond.instanceMethod yX0_move ∈ AL := al_in 821 (by decide +kernel) rfl
theorem co_X0_move : Cond.code yX0_move cX0_move 4 none ∈ AL := al_in 822 (by decide +kernel) rfl
theorem ml_X0_99 : Cond.methodLink RX0 99 yX3_putAt ∈ AL := al_in 823 (by decide +kernel) rfl
theorem ml_X0_102 : Cond.methodLink RX0 102 yX3_setWish ∈ AL := al_in 824 (by decide +kernel) rfl
theorem kl_L_92 : Cond.classLink RL 92 "BoxofficeRowModel" ∈ AL := al_in 825 (by decide +kernel) rfl
theorem is_X5 : Cond.instantiable RX5 19 ∈ AL := al_in 826 (by decide +kernel) rfl
theorem ml_L_94 : Cond.methodLink RL 94 yX5_init ∈ AL := al_in 827 (by decide +kernel) rfl
theorem im_X5_init : Cond.instanceMethod yX5_init ∈ AL := al_in 828 (by decide +kernel) rfl
theorem co_X5_init : Cond.code yX5_init cX5_init 1 none ∈ AL := al_in 829 (by decide +kernel) rfl
theorem ml_X5_1 : Cond.methodLink RX5 1 objectInit ∈ AL := al_in 830 (by decide +kernel) rfl
theorem fl_X5_52 : Cond.fieldLink RX5 52 "BoxofficeRowModel" "thrown" "I" ∈ AL := al_in 831 (by decide +kernel) rfl
theorem fl_X5_109 : Cond.fieldLink RX5 109 "BoxofficeRowModel" "now" "I" ∈ AL := al_in 832 (by decide +kernel) rfl
theorem fl_X5_152 : Cond.fieldLink RX5 152 "BoxofficeRowModel" "takings" "I" ∈ AL := al_in 833 (by decide +kernel) rfl
theorem fl_X5_60 : Cond.fieldLink RX5 60 "BoxofficeRowModel" "rows" "I" ∈ AL := al_in 834 (by decide +kernel) rfl
theorem fl_X5_7 : Cond.fieldLink RX5 7 "BoxofficeRowModel" "wide" "[I" ∈ AL := al_in 835 (by decide +kernel) rfl
theorem fl_X5_13 : Cond.fieldLink RX5 13 "BoxofficeRowModel" "scores" "[I" ∈ AL := al_in 836 (by decide +kernel) rfl
theorem fl_X5_16 : Cond.fieldLink RX5 16 "BoxofficeRowModel" "prices" "[I" ∈ AL := al_in 837 (by decide +kernel) rfl
theorem fl_X5_19 : Cond.fieldLink RX5 19 "BoxofficeRowModel" "owners" "[I" ∈ AL := al_in 838 (by decide +kernel) rfl
theorem fl_X5_106 : Cond.fieldLink RX5 106 "BoxofficeRowModel" "tickets" "I" ∈ AL := al_in 839 (by decide +kernel) rfl
theorem fl_X5_22 : Cond.fieldLink RX5 22 "BoxofficeRowModel" "states" "[I" ∈ AL := al_in 840 (by decide +kernel) rfl
theorem fl_X5_25 : Cond.fieldLink RX5 25 "BoxofficeRowModel" "ends" "[I" ∈ AL := al_in 841 (by decide +kernel) rfl
theorem fl_X5_28 : Cond.fieldLink RX5 28 "BoxofficeRowModel" "extended" "[I" ∈ AL := al_in 842 (by decide +kernel) rfl
theorem fl_X5_31 : Cond.fieldLink RX5 31 "BoxofficeRowModel" "paid" "[I" ∈ AL := al_in 843 (by decide +kernel) rfl
theorem fl_X5_34 : Cond.fieldLink RX5 34 "BoxofficeRowModel" "wishes" "[I" ∈ AL := al_in 844 (by decide +kernel) rfl
theorem fl_X5_37 : Cond.fieldLink RX5 37 "BoxofficeRowModel" "split" "[I" ∈ AL := al_in 845 (by decide +kernel) rfl
theorem fl_X5_40 : Cond.fieldLink RX5 40 "BoxofficeRowModel" "taken" "[I" ∈ AL := al_in 846 (by decide +kernel) rfl
theorem fl_X5_43 : Cond.fieldLink RX5 43 "BoxofficeRowModel" "far" "[I" ∈ AL := al_in 847 (by decide +kernel) rfl
theorem fl_X5_46 : Cond.fieldLink RX5 46 "BoxofficeRowModel" "chain" "[I" ∈ AL := al_in 848 (by decide +kernel) rfl
theorem fl_X5_49 : Cond.fieldLink RX5 49 "BoxofficeRowModel" "firsts" "[I" ∈ AL := al_in 849 (by decide +kernel) rfl
theorem ml_L_101 : Cond.methodLink RL 101 yX5_thrown ∈ AL := al_in 889 (by decide +kernel) rfl
theorem im_X5_thrown : Cond.instanceMethod yX5_thrown ∈ AL := al_in 890 (by decide +kernel) rfl
theorem se_X5_thrown : Cond.selects RX5 yX5_thrown yX5_thrown ∈ AL := al_in 891 (by decide +kernel) rfl
theorem co_X5_thrown : Cond.code yX5_thrown cX5_thrown 1 (some .int) ∈ AL := al_in 892 (by decide +kernel) rfl
theorem ml_L_100 : Cond.methodLink RL 100 yX5_addRow ∈ AL := al_in 893 (by decide +kernel) rfl
theorem im_X5_addRow : Cond.instanceMethod yX5_addRow ∈ AL := al_in 894 (by decide +kernel) rfl
theorem se_X5_addRow : Cond.selects RX5 yX5_addRow yX5_addRow ∈ AL := al_in 895 (by decide +kernel) rfl
theorem co_X5_addRow : Cond.code yX5_addRow cX5_addRow 5 (some .int) ∈ AL := al_in 896 (by decide +kernel) rfl
theorem ml_X5_56 : Cond.methodLink RX5 56 yX5_in ∈ AL := al_in 897 (by decide +kernel) rfl
theorem st_X5_in : Cond.static yX5_in ∈ AL := al_in 898 (by decide +kernel) rfl
theorem co_X5_in : Cond.code yX5_in cX5_in 3 (some .boolean) ∈ AL := al_in 899 (by decide +kernel) rfl
theorem ml_X5_63 : Cond.methodLink RX5 63 yX5_holds ∈ AL := al_in 900 (by decide +kernel) rfl
theorem im_X5_holds : Cond.instanceMethod yX5_holds ∈ AL := al_in 902 (by decide +kernel) rfl
theorem co_X5_holds : Cond.code yX5_holds cX5_holds 2 (some .boolean) ∈ AL := al_in 903 (by decide +kernel) rfl
theorem ml_L_107 : Cond.methodLink RL 107 yX5_toggleBlocked ∈ AL := al_in 904 (by decide +kernel) rfl
theorem im_X5_toggleBlocked : Cond.instanceMethod yX5_toggleBlocked ∈ AL := al_in 905 (by decide +kernel) rfl
theorem se_X5_toggleBlocked : Cond.selects RX5 yX5_toggleBlocked yX5_toggleBlocked ∈ AL := al_in 906 (by decide +kernel) rfl
theorem co_X5_toggleBlocked : Cond.code yX5_toggleBlocked cX5_toggleBlocked 4 (some .boolean) ∈ AL := al_in 907 (by decide +kernel) rfl
theorem ml_X5_70 : Cond.methodLink RX5 70 yX5_isSeat ∈ AL := al_in 908 (by decide +kernel) rfl
theorem im_X5_isSeat : Cond.instanceMethod yX5_isSeat ∈ AL := al_in 910 (by decide +kernel) rfl
theorem co_X5_isSeat : Cond.code yX5_isSeat cX5_isSeat 3 (some .boolean) ∈ AL := al_in 911 (by decide +kernel) rfl
theorem ml_X5_67 : Cond.methodLink RX5 67 yX5_isRow ∈ AL := al_in 912 (by decide +kernel) rfl
theorem im_X5_isRow : Cond.instanceMethod yX5_isRow ∈ AL := al_in 914 (by decide +kernel) rfl
theorem co_X5_isRow : Cond.code yX5_isRow cX5_isRow 2 (some .boolean) ∈ AL := al_in 915 (by decide +kernel) rfl
theorem ml_L_111 : Cond.methodLink RL 111 yX5_rows ∈ AL := al_in 916 (by decide +kernel) rfl
theorem im_X5_rows : Cond.instanceMethod yX5_rows ∈ AL := al_in 917 (by decide +kernel) rfl
theorem se_X5_rows : Cond.selects RX5 yX5_rows yX5_rows ∈ AL := al_in 918 (by decide +kernel) rfl
theorem co_X5_rows : Cond.code yX5_rows cX5_rows 1 (some .int) ∈ AL := al_in 919 (by decide +kernel) rfl
theorem ml_L_114 : Cond.methodLink RL 114 yX5_state ∈ AL := al_in 920 (by decide +kernel) rfl
theorem im_X5_state : Cond.instanceMethod yX5_state ∈ AL := al_in 921 (by decide +kernel) rfl
theorem se_X5_state : Cond.selects RX5 yX5_state yX5_state ∈ AL := al_in 922 (by decide +kernel) rfl
theorem co_X5_state : Cond.code yX5_state cX5_state 4 (some .int) ∈ AL := al_in 923 (by decide +kernel) rfl
theorem ml_L_117 : Cond.methodLink RL 117 yX5_ticketAt ∈ AL := al_in 924 (by decide +kernel) rfl
theorem im_X5_ticketAt : Cond.instanceMethod yX5_ticketAt ∈ AL := al_in 925 (by decide +kernel) rfl
theorem se_X5_ticketAt : Cond.selects RX5 yX5_ticketAt yX5_ticketAt ∈ AL := al_in 926 (by decide +kernel) rfl
theorem co_X5_ticketAt : Cond.code yX5_ticketAt cX5_ticketAt 3 (some .int) ∈ AL := al_in 927 (by decide +kernel) rfl
theorem ml_L_120 : Cond.methodLink RL 120 yX5_value ∈ AL := al_in 928 (by decide +kernel) rfl
theorem im_X5_value : Cond.instanceMethod yX5_value ∈ AL := al_in 929 (by decide +kernel) rfl
theorem se_X5_value : Cond.selects RX5 yX5_value yX5_value ∈ AL := al_in 930 (by decide +kernel) rfl
theorem co_X5_value : Cond.code yX5_value cX5_value 3 (some .int) ∈ AL := al_in 931 (by decide +kernel) rfl
theorem ml_X5_74 : Cond.methodLink RX5 74 yX5_worth ∈ AL := al_in 932 (by decide +kernel) rfl
theorem im_X5_worth : Cond.instanceMethod yX5_worth ∈ AL := al_in 934 (by decide +kernel) rfl
theorem co_X5_worth : Cond.code yX5_worth cX5_worth 4 (some .int) ∈ AL := al_in 935 (by decide +kernel) rfl
theorem ml_L_124 : Cond.methodLink RL 124 yX5_freeSeats ∈ AL := al_in 936 (by decide +kernel) rfl
theorem im_X5_freeSeats : Cond.instanceMethod yX5_freeSeats ∈ AL := al_in 937 (by decide +kernel) rfl
theorem se_X5_freeSeats : Cond.selects RX5 yX5_freeSeats yX5_freeSeats ∈ AL := al_in 938 (by decide +kernel) rfl
theorem co_X5_freeSeats : Cond.code yX5_freeSeats cX5_freeSeats 2 (some .int) ∈ AL := al_in 939 (by decide +kernel) rfl
theorem ml_X5_81 : Cond.methodLink RX5 81 yX5_frees ∈ AL := al_in 940 (by decide +kernel) rfl
theorem im_X5_frees : Cond.instanceMethod yX5_frees ∈ AL := al_in 942 (by decide +kernel) rfl
theorem co_X5_frees : Cond.code yX5_frees cX5_frees 4 (some .int) ∈ AL := al_in 943 (by decide +kernel) rfl
theorem ml_X5_78 : Cond.methodLink RX5 78 yX5_isFree ∈ AL := al_in 944 (by decide +kernel) rfl
theorem im_X5_isFree : Cond.instanceMethod yX5_isFree ∈ AL := al_in 946 (by decide +kernel) rfl
theorem co_X5_isFree : Cond.code yX5_isFree cX5_isFree 3 (some .boolean) ∈ AL := al_in 947 (by decide +kernel) rfl
theorem ml_L_128 : Cond.methodLink RL 128 yX5_orphans ∈ AL := al_in 948 (by decide +kernel) rfl
theorem im_X5_orphans : Cond.instanceMethod yX5_orphans ∈ AL := al_in 949 (by decide +kernel) rfl
theorem se_X5_orphans : Cond.selects RX5 yX5_orphans yX5_orphans ∈ AL := al_in 950 (by decide +kernel) rfl
theorem co_X5_orphans : Cond.code yX5_orphans cX5_orphans 4 (some .int) ∈ AL := al_in 951 (by decide +kernel) rfl
theorem ml_L_132 : Cond.methodLink RL 132 yX5_longestBlock ∈ AL := al_in 952 (by decide +kernel) rfl
theorem im_X5_longestBlock : Cond.instanceMethod yX5_longestBlock ∈ AL := al_in 953 (by decide +kernel) rfl
theorem se_X5_longestBlock : Cond.selects RX5 yX5_longestBlock yX5_longestBlock ∈ AL := al_in 954 (by decide +kernel) rfl
theorem co_X5_longestBlock : Cond.code yX5_longestBlock cX5_longestBlock 4 (some .int) ∈ AL := al_in 955 (by decide +kernel) rfl
theorem ml_X5_85 : Cond.methodLink RX5 85 yX5_run ∈ AL := al_in 956 (by decide +kernel) rfl
theorem im_X5_run : Cond.instanceMethod yX5_run ∈ AL := al_in 958 (by decide +kernel) rfl
theorem co_X5_run : Cond.code yX5_run cX5_run 4 (some .int) ∈ AL := al_in 959 (by decide +kernel) rfl
theorem ml_L_135 : Cond.methodLink RL 135 yX5_bestBlock ∈ AL := al_in 960 (by decide +kernel) rfl
theorem im_X5_bestBlock : Cond.instanceMethod yX5_bestBlock ∈ AL := al_in 961 (by decide +kernel) rfl
theorem se_X5_bestBlock : Cond.selects RX5 yX5_bestBlock yX5_bestBlock ∈ AL := al_in 962 (by decide +kernel) rfl
theorem co_X5_bestBlock : Cond.code yX5_bestBlock cX5_bestBlock 3 (some .int) ∈ AL := al_in 963 (by decide +kernel) rfl
theorem ml_X5_103 : Cond.methodLink RX5 103 yX5_best ∈ AL := al_in 964 (by decide +kernel) rfl
theorem im_X5_best : Cond.instanceMethod yX5_best ∈ AL := al_in 966 (by decide +kernel) rfl
theorem co_X5_best : Cond.code yX5_best cX5_best 3 (some .int) ∈ AL := al_in 967 (by decide +kernel) rfl
theorem ml_X5_99 : Cond.methodLink RX5 99 yX5_bestOf ∈ AL := al_in 968 (by decide +kernel) rfl
theorem im_X5_bestOf : Cond.instanceMethod yX5_bestOf ∈ AL := al_in 970 (by decide +kernel) rfl
theorem co_X5_bestOf : Cond.code yX5_bestOf cX5_bestOf 8 (some .int) ∈ AL := al_in 971 (by decide +kernel) rfl
theorem ml_X5_95 : Cond.methodLink RX5 95 yX5_firstIn ∈ AL := al_in 972 (by decide +kernel) rfl
theorem im_X5_firstIn : Cond.instanceMethod yX5_firstIn ∈ AL := al_in 974 (by decide +kernel) rfl
theorem co_X5_firstIn : Cond.code yX5_firstIn cX5_firstIn 6 (some .int) ∈ AL := al_in 975 (by decide +kernel) rfl
theorem ml_X5_88 : Cond.methodLink RX5 88 yX5_hasOrphan ∈ AL := al_in 976 (by decide +kernel) rfl
theorem im_X5_hasOrphan : Cond.instanceMethod yX5_hasOrphan ∈ AL := al_in 978 (by decide +kernel) rfl
theorem co_X5_hasOrphan : Cond.code yX5_hasOrphan cX5_hasOrphan 6 (some .boolean) ∈ AL := al_in 979 (by decide +kernel) rfl
theorem ml_X5_91 : Cond.methodLink RX5 91 yX5_sum ∈ AL := al_in 980 (by decide +kernel) rfl
theorem im_X5_sum : Cond.instanceMethod yX5_sum ∈ AL := al_in 982 (by decide +kernel) rfl
theorem co_X5_sum : Cond.code yX5_sum cX5_sum 6 (some .int) ∈ AL := al_in 983 (by decide +kernel) rfl
theorem ml_L_138 : Cond.methodLink RL 138 yX5_leavesOrphan ∈ AL := al_in 984 (by decide +kernel) rfl
theorem im_X5_leavesOrphan : Cond.instanceMethod yX5_leavesOrphan ∈ AL := al_in 985 (by decide +kernel) rfl
theorem se_X5_leavesOrphan : Cond.selects RX5 yX5_leavesOrphan yX5_leavesOrphan ∈ AL := al_in 986 (by decide +kernel) rfl
theorem co_X5_leavesOrphan : Cond.code yX5_leavesOrphan cX5_leavesOrphan 3 (some .boolean) ∈ AL := al_in 987 (by decide +kernel) rfl
theorem ml_L_141 : Cond.methodLink RL 141 yX5_hold ∈ AL := al_in 988 (by decide +kernel) rfl
theorem im_X5_hold : Cond.instanceMethod yX5_hold ∈ AL := al_in 989 (by decide +kernel) rfl
theorem se_X5_hold : Cond.selects RX5 yX5_hold yX5_hold ∈ AL := al_in 990 (by decide +kernel) rfl
theorem co_X5_hold : Cond.code yX5_hold cX5_hold 5 (some .int) ∈ AL := al_in 991 (by decide +kernel) rfl
theorem ml_X5_112 : Cond.methodLink RX5 112 yX5_isMinutes ∈ AL := al_in 992 (by decide +kernel) rfl
theorem st_X5_isMinutes : Cond.static yX5_isMinutes ∈ AL := al_in 993 (by decide +kernel) rfl
theorem co_X5_isMinutes : Cond.code yX5_isMinutes cX5_isMinutes 1 (some .boolean) ∈ AL := al_in 994 (by decide +kernel) rfl
theorem ml_X5_115 : Cond.methodLink RX5 115 yX5_grants ∈ AL := al_in 995 (by decide +kernel) rfl
theorem im_X5_grants : Cond.instanceMethod yX5_grants ∈ AL := al_in 997 (by decide +kernel) rfl
theorem co_X5_grants : Cond.code yX5_grants cX5_grants 2 (some .int) ∈ AL := al_in 998 (by decide +kernel) rfl
theorem ml_X5_118 : Cond.methodLink RX5 118 yX5_owns ∈ AL := al_in 999 (by decide +kernel) rfl
theorem im_X5_owns : Cond.instanceMethod yX5_owns ∈ AL := al_in 1001 (by decide +kernel) rfl
theorem co_X5_owns : Cond.code yX5_owns cX5_owns 6 none ∈ AL := al_in 1002 (by decide +kernel) rfl
theorem ml_L_145 : Cond.methodLink RL 145 yX5_holdAt ∈ AL := al_in 1003 (by decide +kernel) rfl
theorem im_X5_holdAt : Cond.instanceMethod yX5_holdAt ∈ AL := al_in 1004 (by decide +kernel) rfl
theorem se_X5_holdAt : Cond.selects RX5 yX5_holdAt yX5_holdAt ∈ AL := al_in 1005 (by decide +kernel) rfl
theorem co_X5_holdAt : Cond.code yX5_holdAt cX5_holdAt 6 (some .int) ∈ AL := al_in 1006 (by decide +kernel) rfl
theorem ml_L_148 : Cond.methodLink RL 148 yX5_rowsForGroup ∈ AL := al_in 1007 (by decide +kernel) rfl
theorem im_X5_rowsForGroup : Cond.instanceMethod yX5_rowsForGroup ∈ AL := al_in 1008 (by decide +kernel) rfl
theorem se_X5_rowsForGroup : Cond.selects RX5 yX5_rowsForGroup yX5_rowsForGroup ∈ AL := al_in 1009 (by decide +kernel) rfl
theorem co_X5_rowsForGroup : Cond.code yX5_rowsForGroup cX5_rowsForGroup 3 (some .int) ∈ AL := al_in 1010 (by decide +kernel) rfl
theorem ml_X5_137 : Cond.methodLink RX5 137 yX5_isGroup ∈ AL := al_in 1011 (by decide +kernel) rfl
theorem st_X5_isGroup : Cond.static yX5_isGroup ∈ AL := al_in 1012 (by decide +kernel) rfl
theorem co_X5_isGroup : Cond.code yX5_isGroup cX5_isGroup 1 (some .boolean) ∈ AL := al_in 1013 (by decide +kernel) rfl
theorem ml_X5_140 : Cond.methodLink RX5 140 yX5_splits ∈ AL := al_in 1014 (by decide +kernel) rfl
theorem im_X5_splits : Cond.instanceMethod yX5_splits ∈ AL := al_in 1016 (by decide +kernel) rfl
theorem co_X5_splits : Cond.code yX5_splits cX5_splits 8 (some .int) ∈ AL := al_in 1017 (by decide +kernel) rfl
theorem ml_X5_130 : Cond.methodLink RX5 130 yX5_laysSplits ∈ AL := al_in 1018 (by decide +kernel) rfl
theorem im_X5_laysSplits : Cond.instanceMethod yX5_laysSplits ∈ AL := al_in 1020 (by decide +kernel) rfl
theorem co_X5_laysSplits : Cond.code yX5_laysSplits cX5_laysSplits 4 none ∈ AL := al_in 1021 (by decide +kernel) rfl
theorem cn_X5_125 : Cond.constant RX5 125 (-1000000) ∈ AL := al_in 1022 (by decide +kernel) rfl
theorem ml_X5_122 : Cond.methodLink RX5 122 yX5_place ∈ AL := al_in 1023 (by decide +kernel) rfl
theorem st_X5_place : Cond.static yX5_place ∈ AL := al_in 1024 (by decide +kernel) rfl
theorem co_X5_place : Cond.code yX5_place cX5_place 3 (some .int) ∈ AL := al_in 1025 (by decide +kernel) rfl
theorem ml_X5_126 : Cond.methodLink RX5 126 yX5_laysSeats ∈ AL := al_in 1026 (by decide +kernel) rfl
theorem im_X5_laysSeats : Cond.instanceMethod yX5_laysSeats ∈ AL := al_in 1028 (by decide +kernel) rfl
theorem co_X5_laysSeats : Cond.code yX5_laysSeats cX5_laysSeats 8 none ∈ AL := al_in 1029 (by decide +kernel) rfl
theorem ml_X5_133 : Cond.methodLink RX5 133 yX5_given ∈ AL := al_in 1030 (by decide +kernel) rfl
theorem im_X5_given : Cond.instanceMethod yX5_given ∈ AL := al_in 1032 (by decide +kernel) rfl
theorem co_X5_given : Cond.code yX5_given cX5_given 7 (some .int) ∈ AL := al_in 1033 (by decide +kernel) rfl
theorem ml_L_151 : Cond.methodLink RL 151 yX5_seatsForGroup ∈ AL := al_in 1034 (by decide +kernel) rfl
theorem im_X5_seatsForGroup : Cond.instanceMethod yX5_seatsForGroup ∈ AL := al_in 1035 (by decide +kernel) rfl
theorem se_X5_seatsForGroup : Cond.selects RX5 yX5_seatsForGroup yX5_seatsForGroup ∈ AL := al_in 1036 (by decide +kernel) rfl
theorem co_X5_seatsForGroup : Cond.code yX5_seatsForGroup cX5_seatsForGroup 5 (some .int) ∈ AL := al_in 1037 (by decide +kernel) rfl
theorem ml_L_154 : Cond.methodLink RL 154 yX5_holdGroup ∈ AL := al_in 1038 (by decide +kernel) rfl
theorem im_X5_holdGroup : Cond.instanceMethod yX5_holdGroup ∈ AL := al_in 1039 (by decide +kernel) rfl
theorem se_X5_holdGroup : Cond.selects RX5 yX5_holdGroup yX5_holdGroup ∈ AL := al_in 1040 (by decide +kernel) rfl
theorem co_X5_holdGroup : Cond.code yX5_holdGroup cX5_holdGroup 7 (some .int) ∈ AL := al_in 1041 (by decide +kernel) rfl
theorem ml_L_158 : Cond.methodLink RL 158 yX5_tickets ∈ AL := al_in 1042 (by decide +kernel) rfl
theorem im_X5_tickets : Cond.instanceMethod yX5_tickets ∈ AL := al_in 1043 (by decide +kernel) rfl
theorem se_X5_tickets : Cond.selects RX5 yX5_tickets yX5_tickets ∈ AL := al_in 1044 (by decide +kernel) rfl
theorem co_X5_tickets : Cond.code yX5_tickets cX5_tickets 1 (some .int) ∈ AL := al_in 1045 (by decide +kernel) rfl
theorem ml_L_161 : Cond.methodLink RL 161 yX5_ticketState ∈ AL := al_in 1046 (by decide +kernel) rfl
theorem im_X5_ticketState : Cond.instanceMethod yX5_ticketState ∈ AL := al_in 1047 (by decide +kernel) rfl
theorem se_X5_ticketState : Cond.selects RX5 yX5_ticketState yX5_ticketState ∈ AL := al_in 1048 (by decide +kernel) rfl
theorem co_X5_ticketState : Cond.code yX5_ticketState cX5_ticketState 2 (some .int) ∈ AL := al_in 1049 (by decide +kernel) rfl
theorem ml_X5_143 : Cond.methodLink RX5 143 yX5_isTicket ∈ AL := al_in 1050 (by decide +kernel) rfl
theorem im_X5_isTicket : Cond.instanceMethod yX5_isTicket ∈ AL := al_in 1052 (by decide +kernel) rfl
theorem co_X5_isTicket : Cond.code yX5_isTicket cX5_isTicket 2 (some .boolean) ∈ AL := al_in 1053 (by decide +kernel) rfl
theorem ml_L_164 : Cond.methodLink RL 164 yX5_seatsOf ∈ AL := al_in 1054 (by decide +kernel) rfl
theorem im_X5_seatsOf : Cond.instanceMethod yX5_seatsOf ∈ AL := al_in 1055 (by decide +kernel) rfl
theorem se_X5_seatsOf : Cond.selects RX5 yX5_seatsOf yX5_seatsOf ∈ AL := al_in 1056 (by decide +kernel) rfl
theorem co_X5_seatsOf : Cond.code yX5_seatsOf cX5_seatsOf 2 (some .int) ∈ AL := al_in 1057 (by decide +kernel) rfl
theorem ml_X5_146 : Cond.methodLink RX5 146 yX5_many ∈ AL := al_in 1058 (by decide +kernel) rfl
theorem im_X5_many : Cond.instanceMethod yX5_many ∈ AL := al_in 1060 (by decide +kernel) rfl
theorem co_X5_many : Cond.code yX5_many cX5_many 4 (some .int) ∈ AL := al_in 1061 (by decide +kernel) rfl
theorem ml_L_167 : Cond.methodLink RL 167 yX5_priceOf ∈ AL := al_in 1062 (by decide +kernel) rfl
theorem im_X5_priceOf : Cond.instanceMethod yX5_priceOf ∈ AL := al_in 1063 (by decide +kernel) rfl
theorem se_X5_priceOf : Cond.selects RX5 yX5_priceOf yX5_priceOf ∈ AL := al_in 1064 (by decide +kernel) rfl
theorem co_X5_priceOf : Cond.code yX5_priceOf cX5_priceOf 2 (some .int) ∈ AL := al_in 1065 (by decide +kernel) rfl
theorem ml_X5_149 : Cond.methodLink RX5 149 yX5_priced ∈ AL := al_in 1066 (by decide +kernel) rfl
theorem im_X5_priced : Cond.instanceMethod yX5_priced ∈ AL := al_in 1068 (by decide +kernel) rfl
theorem co_X5_priced : Cond.code yX5_priced cX5_priced 4 (some .int) ∈ AL := al_in 1069 (by decide +kernel) rfl
theorem ml_L_170 : Cond.methodLink RL 170 yX5_extend ∈ AL := al_in 1070 (by decide +kernel) rfl
theorem im_X5_extend : Cond.instanceMethod yX5_extend ∈ AL := al_in 1071 (by decide +kernel) rfl
theorem se_X5_extend : Cond.selects RX5 yX5_extend yX5_extend ∈ AL := al_in 1072 (by decide +kernel) rfl
theorem co_X5_extend : Cond.code yX5_extend cX5_extend 3 (some .int) ∈ AL := al_in 1073 (by decide +kernel) rfl
theorem ml_L_173 : Cond.methodLink RL 173 yX5_pay ∈ AL := al_in 1074 (by decide +kernel) rfl
theorem im_X5_pay : Cond.instanceMethod yX5_pay ∈ AL := al_in 1075 (by decide +kernel) rfl
theorem se_X5_pay : Cond.selects RX5 yX5_pay yX5_pay ∈ AL := al_in 1076 (by decide +kernel) rfl
theorem co_X5_pay : Cond.code yX5_pay cX5_pay 2 (some .int) ∈ AL := al_in 1077 (by decide +kernel) rfl
theorem ml_L_176 : Cond.methodLink RL 176 yX5_cancel ∈ AL := al_in 1078 (by decide +kernel) rfl
theorem im_X5_cancel : Cond.instanceMethod yX5_cancel ∈ AL := al_in 1079 (by decide +kernel) rfl
theorem se_X5_cancel : Cond.selects RX5 yX5_cancel yX5_cancel ∈ AL := al_in 1080 (by decide +kernel) rfl
theorem co_X5_cancel : Cond.code yX5_cancel cX5_cancel 2 (some .int) ∈ AL := al_in 1081 (by decide +kernel) rfl
theorem ml_X5_155 : Cond.methodLink RX5 155 yX5_closes ∈ AL := al_in 1082 (by decide +kernel) rfl
theorem im_X5_closes : Cond.instanceMethod yX5_closes ∈ AL := al_in 1084 (by decide +kernel) rfl
theorem co_X5_closes : Cond.code yX5_closes cX5_closes 4 none ∈ AL := al_in 1085 (by decide +kernel) rfl
theorem ml_L_180 : Cond.methodLink RL 180 yX5_takings ∈ AL := al_in 1086 (by decide +kernel) rfl
theorem im_X5_takings : Cond.instanceMethod yX5_takings ∈ AL := al_in 1087 (by decide +kernel) rfl
theorem se_X5_takings : Cond.selects RX5 yX5_takings yX5_takings ∈ AL := al_in 1088 (by decide +kernel) rfl
theorem co_X5_takings : Cond.code yX5_takings cX5_takings 1 (some .int) ∈ AL := al_in 1089 (by decide +kernel) rfl
theorem ml_L_184 : Cond.methodLink RL 184 yX5_now ∈ AL := al_in 1090 (by decide +kernel) rfl
theorem im_X5_now : Cond.instanceMethod yX5_now ∈ AL := al_in 1091 (by decide +kernel) rfl
theorem se_X5_now : Cond.selects RX5 yX5_now yX5_now ∈ AL := al_in 1092 (by decide +kernel) rfl
theorem co_X5_now : Cond.code yX5_now cX5_now 1 (some .int) ∈ AL := al_in 1093 (by decide +kernel) rfl
theorem ml_L_187 : Cond.methodLink RL 187 yX5_pass ∈ AL := al_in 1094 (by decide +kernel) rfl
theorem im_X5_pass : Cond.instanceMethod yX5_pass ∈ AL := al_in 1095 (by decide +kernel) rfl
theorem se_X5_pass : Cond.selects RX5 yX5_pass yX5_pass ∈ AL := al_in 1096 (by decide +kernel) rfl
theorem co_X5_pass : Cond.code yX5_pass cX5_pass 4 (some .int) ∈ AL := al_in 1097 (by decide +kernel) rfl
theorem ml_L_191 : Cond.methodLink RL 191 yX5_nextExpiry ∈ AL := al_in 1098 (by decide +kernel) rfl
theorem im_X5_nextExpiry : Cond.instanceMethod yX5_nextExpiry ∈ AL := al_in 1099 (by decide +kernel) rfl
theorem se_X5_nextExpiry : Cond.selects RX5 yX5_nextExpiry yX5_nextExpiry ∈ AL := al_in 1100 (by decide +kernel) rfl
theorem co_X5_nextExpiry : Cond.code yX5_nextExpiry cX5_nextExpiry 3 (some .int) ∈ AL := al_in 1101 (by decide +kernel) rfl
theorem ml_L_194 : Cond.methodLink RL 194 yX5_wish ∈ AL := al_in 1102 (by decide +kernel) rfl
theorem im_X5_wish : Cond.instanceMethod yX5_wish ∈ AL := al_in 1103 (by decide +kernel) rfl
theorem se_X5_wish : Cond.selects RX5 yX5_wish yX5_wish ∈ AL := al_in 1104 (by decide +kernel) rfl
theorem co_X5_wish : Cond.code yX5_wish cX5_wish 4 (some .int) ∈ AL := al_in 1105 (by decide +kernel) rfl
theorem ml_X5_164 : Cond.methodLink RX5 164 yX5_mayWish ∈ AL := al_in 1106 (by decide +kernel) rfl
theorem im_X5_mayWish : Cond.instanceMethod yX5_mayWish ∈ AL := al_in 1108 (by decide +kernel) rfl
theorem co_X5_mayWish : Cond.code yX5_mayWish cX5_mayWish 3 (some .boolean) ∈ AL := al_in 1109 (by decide +kernel) rfl
theorem ml_X5_158 : Cond.methodLink RX5 158 yX5_firstOf ∈ AL := al_in 1110 (by decide +kernel) rfl
theorem im_X5_firstOf : Cond.instanceMethod yX5_firstOf ∈ AL := al_in 1112 (by decide +kernel) rfl
theorem co_X5_firstOf : Cond.code yX5_firstOf cX5_firstOf 3 (some .int) ∈ AL := al_in 1113 (by decide +kernel) rfl
theorem ml_X5_161 : Cond.methodLink RX5 161 yX5_lastOf ∈ AL := al_in 1114 (by decide +kernel) rfl
theorem im_X5_lastOf : Cond.instanceMethod yX5_lastOf ∈ AL := al_in 1116 (by decide +kernel) rfl
theorem co_X5_lastOf : Cond.code yX5_lastOf cX5_lastOf 4 (some .int) ∈ AL := al_in 1117 (by decide +kernel) rfl
theorem ml_L_197 : Cond.methodLink RL 197 yX5_exchange ∈ AL := al_in 1118 (by decide +kernel) rfl
theorem im_X5_exchange : Cond.instanceMethod yX5_exchange ∈ AL := al_in 1119 (by decide +kernel) rfl
theorem se_X5_exchange : Cond.selects RX5 yX5_exchange yX5_exchange ∈ AL := al_in 1120 (by decide +kernel) rfl
theorem co_X5_exchange : Cond.code yX5_exchange cX5_exchange 7 (some .int) ∈ AL := al_in 1121 (by decide +kernel) rfl
theorem ml_X5_167 : Cond.methodLink RX5 167 yX5_hasWish ∈ AL := al_in 1122 (by decide +kernel) rfl
theorem im_X5_hasWish : Cond.instanceMethod yX5_hasWish ∈ AL := al_in 1124 (by decide +kernel) rfl
theorem co_X5_hasWish : Cond.code yX5_hasWish cX5_hasWish 2 (some .boolean) ∈ AL := al_in 1125 (by decide +kernel) rfl
theorem ml_X5_173 : Cond.methodLink RX5 173 yX5_laysFar ∈ AL := al_in 1126 (by decide +kernel) rfl
theorem im_X5_laysFar : Cond.instanceMethod yX5_laysFar ∈ AL := al_in 1128 (by decide +kernel) rfl
theorem co_X5_laysFar : Cond.code yX5_laysFar cX5_laysFar 6 none ∈ AL := al_in 1129 (by decide +kernel) rfl
theorem ml_X5_170 : Cond.methodLink RX5 170 yX5_follows ∈ AL := al_in 1130 (by decide +kernel) rfl
theorem im_X5_follows : Cond.instanceMethod yX5_follows ∈ AL := al_in 1132 (by decide +kernel) rfl
theorem co_X5_follows : Cond.code yX5_follows cX5_follows 3 (some .boolean) ∈ AL := al_in 1133 (by decide +kernel) rfl
theorem ml_X5_176 : Cond.methodLink RX5 176 yX5_changes ∈ AL := al_in 1134 (by decide +kernel) rfl
theorem im_X5_changes : Cond.instanceMethod yX5_changes ∈ AL := al_in 1136 (by decide +kernel) rfl
theorem co_X5_changes : Cond.code yX5_changes cX5_changes 8 none ∈ AL := al_in 1137 (by decide +kernel) rfl
theorem ac_long : Cond.arrayClass .long ∈ AL := al_in 1138 (by decide +kernel) rfl
theorem ly_X0 : ∀ w ∈ wsX00, w ∈ AL := al_list [178, 180, 182, 184, 186, 188] (by decide +kernel) (by decide +kernel)
theorem ly_X1 : ∀ w ∈ wsX10, w ∈ AL := al_list [149, 151, 153, 155, 157, 159, 161, 163] (by decide +kernel) (by decide +kernel)
theorem ly_X2 : ∀ w ∈ wsX20, w ∈ AL := al_list [88, 90, 92, 94, 96] (by decide +kernel) (by decide +kernel)
theorem ly_X3 : ∀ w ∈ wsX30, w ∈ AL := al_list [115, 117, 119, 121, 123, 125, 127, 129, 131] (by decide +kernel) (by decide +kernel)
theorem ly_X4 : ∀ w ∈ wsX40, w ∈ AL := al_list [197, 199, 201, 203, 205, 207] (by decide +kernel) (by decide +kernel)
theorem ly_X5 : ∀ w ∈ wsX50, w ∈ AL := al_list [850, 852, 854, 856, 858, 860, 862, 864, 866, 868, 870, 872, 874, 876, 878, 880, 882, 884, 886] (by decide +kernel) (by decide +kernel)
end
section
/-! THE ABSTRACT WALK: one memory of whole numbers over a fixed graph of objects; a row an instruction, over states (place, locals, stack, memory) -/
abbrev Mem : Type := Nat → Int → Int → Int
abbrev WPar : Type := va_G × (ClassId × ClassId × ClassId) × (Nat → Int → Nat) × Nat
abbrev MInfo : Type := MethodName × ByteArray × Nat × Option FieldType × (Nat × Nat) × (Nat × Nat) × List (Nat × Nat × Nat × Nat)
abbrev OutT : Type := Option Int ⊕ String
abbrev ZT : Type := (State → Array Value → Prop) × (List Frame → Array Value → State → State → Prop)
abbrev inR (z : Int) : Prop := -2147483648 ≤ z ∧ z ≤ 2147483647
def iV (z : Int) : Value := .int (Int32.ofInt z)
def kad (K : WPar) (g : Nat) (i : Int) : Nat := K.2.2.1 g i
def rV (K : WPar) (g : Nat) (i : Int) : Value := .ref (kad K g i)
def kF (K : WPar) : Nat → Prop := fun q => K.2.2.2 ≤ q
def ktys (K : WPar) : List (ClassId × FieldType) := [(K.2.1.1, .int), (K.2.1.2.1, .long), (K.2.1.2.2, .array .int)]
/-- the kinds of the objects: (0, class, _, its fields: a number or a reference), (1, length) ints, (2, length, rows) rows of ints, (3, length) longs -/
def gk (g : Nat) : Nat × Nat × Nat × List (Option Nat) := match g with
  | 0 => (0, 4, 0, [some 1, some 7, some 16, some 27, none, none])
  | 1 => (0, 2, 0, [some 2, some 3, some 4, some 5, none])
  | 2 => (1, 12, 0, [])
  | 3 => (1, 12, 0, [])
  | 4 => (1, 12, 0, [])
  | 5 => (2, 12, 6, [])
  | 6 => (1, 20, 0, [])
  | 7 => (0, 3, 0, [some 8, some 9, some 10, some 11, some 12, some 13, some 14, some 15, none])
  | 8 => (1, 101, 0, [])
  | 9 => (1, 101, 0, [])
  | 10 => (1, 101, 0, [])
  | 11 => (1, 101, 0, [])
  | 12 => (1, 101, 0, [])
  | 13 => (1, 101, 0, [])
  | 14 => (1, 101, 0, [])
  | 15 => (1, 101, 0, [])
  | 16 => (0, 1, 0, [some 1, some 17, some 18, some 20, some 22, some 24, some 26, none])
  | 17 => (1, 12, 0, [])
  | 18 => (2, 12, 19, [])
  | 19 => (1, 21, 0, [])
  | 20 => (2, 12, 21, [])
  | 21 => (1, 21, 0, [])
  | 22 => (2, 13, 23, [])
  | 23 => (1, 101, 0, [])
  | 24 => (2, 13, 25, [])
  | 25 => (1, 101, 0, [])
  | 26 => (1, 12, 0, [])
  | 27 => (0, 0, 0, [some 1, some 7, some 28, some 29, none, none])
  | 28 => (1, 12, 0, [])
  | 29 => (1, 13, 0, [])
  | 30 => (0, 5, 0, [none, none, none, none, some 31, some 32, some 33, some 34, none, some 35, some 36, some 37, some 38, some 39, some 40, some 41, some 42, some 43, some 44])
  | 31 => (1, 12, 0, [])
  | 32 => (1, 12, 0, [])
  | 33 => (1, 12, 0, [])
  | 34 => (1, 240, 0, [])
  | 35 => (1, 101, 0, [])
  | 36 => (1, 101, 0, [])
  | 37 => (1, 101, 0, [])
  | 38 => (1, 101, 0, [])
  | 39 => (1, 101, 0, [])
  | 40 => (1, 17069, 0, [])
  | 41 => (1, 12, 0, [])
  | 42 => (1, 101, 0, [])
  | 43 => (1, 101, 0, [])
  | 44 => (1, 101, 0, [])
  | 45 => (3, 1, 0, [])
  | _ => (4, 0, 0, [])
/-- how many objects of a kind there are -/
def gcnt (g : Nat) : Int := match g with
  | 6 => 12
  | 19 => 12
  | 21 => 12
  | 23 => 13
  | 25 => 13
  | n => if n ≤ 45 then 1 else 0
def fvals (K : WPar) (f : Int → Int) : List (Option Nat) → Nat → List Value
  | [], _ => []
  | none :: r, k => iV (f (k : Int)) :: fvals K f r (k + 1)
  | some b :: r, k => rV K b 0 :: fvals K f r (k + 1)
theorem fvals_len (K : WPar) (f : Int → Int) : ∀ (fs : List (Option Nat)) (b : Nat), (fvals K f fs b).length = fs.length
  | [], _ => rfl
  | none :: r, b => by simp [fvals, fvals_len K f r]
  | some _ :: r, b => by simp [fvals, fvals_len K f r]
theorem fvals_int (K : WPar) (f : Int → Int) : ∀ (fs : List (Option Nat)) (b k : Nat), fs[k]? = some none → (fvals K f fs b)[k]? = some (iV (f ((b + k : Nat) : Int)))
  | [], _, _, h => by simp at h
  | none :: r, b, 0, _ => by simp [fvals]
  | some _ :: r, b, 0, h => by simp at h
  | none :: r, b, k + 1, h => by
    have := fvals_int K f r (b + 1) k (by simpa using h)
    simp only [fvals, List.getElem?_cons_succ]
    rw [this, show b + 1 + k = b + (k + 1) by omega]
  | some _ :: r, b, k + 1, h => by
    have := fvals_int K f r (b + 1) k (by simpa using h)
    simp only [fvals, List.getElem?_cons_succ]
    rw [this, show b + 1 + k = b + (k + 1) by omega]
theorem fvals_ref (K : WPar) (f : Int → Int) (q : Nat) : ∀ (fs : List (Option Nat)) (b k : Nat), fs[k]? = some (some q) → (fvals K f fs b)[k]? = some (rV K q 0)
  | [], _, _, h => by simp at h
  | none :: r, b, 0, h => by simp at h
  | some _ :: r, b, 0, h => by
    simp at h
    subst h
    simp [fvals]
  | none :: r, b, k + 1, h => by
    have := fvals_ref K f q r (b + 1) k (by simpa using h)
    simpa [fvals] using this
  | some _ :: r, b, k + 1, h => by
    have := fvals_ref K f q r (b + 1) k (by simpa using h)
    simpa [fvals] using this
def cellK (K : WPar) (y : Nat × Nat × Nat × List (Option Nat)) (f : Int → Int) : va_E :=
  match y with
  | (0, ci, _, fs) => .inr (ci, fvals K f fs 0)
  | (1, n, _, _) => .inl (K.2.1.1, n, .inl (fun j => Int32.ofInt (f (j : Int))))
  | (2, n, sub, _) => .inl (K.2.1.2.2, n, .inr (.inr (.inr (.inr (fun j => if j < n then some (kad K sub (j : Int)) else none)))))
  | (_, n, _, _) => .inl (K.2.1.2.1, n, .inr (.inl (fun j => Int64.ofInt (f (j : Int)))))
def cellOf (K : WPar) (M : Mem) (g : Nat) (i : Int) : va_E := cellK K (gk g) (M g i)
theorem cellOf_obj {K : WPar} {M : Mem} {g : Nat} {i : Int} {ci : Nat} {x : Nat} {fs : List (Option Nat)} (h : gk g = (0, ci, x, fs)) : cellOf K M g i = .inr (ci, fvals K (M g i) fs 0) := by
  unfold cellOf; rw [h]; rfl
theorem cellOf_ints {K : WPar} {M : Mem} {g : Nat} {i : Int} {n x : Nat} {fs : List (Option Nat)} (h : gk g = (1, n, x, fs)) : cellOf K M g i = .inl (K.2.1.1, n, .inl (fun j => Int32.ofInt (M g i (j : Int)))) := by
  unfold cellOf; rw [h]; rfl
theorem cellOf_rows {K : WPar} {M : Mem} {g : Nat} {i : Int} {n x : Nat} {fs : List (Option Nat)} (h : gk g = (2, n, x, fs)) : cellOf K M g i = .inl (K.2.1.2.2, n, .inr (.inr (.inr (.inr (fun j => if j < n then some (kad K x (j : Int)) else none))))) := by
  unfold cellOf; rw [h]; rfl
theorem cellOf_longs {K : WPar} {M : Mem} {g : Nat} {i : Int} {n x : Nat} {fs : List (Option Nat)} (h : gk g = (3, n, x, fs)) : cellOf K M g i = .inl (K.2.1.2.1, n, .inr (.inl (fun j => Int64.ofInt (M g i (j : Int))))) := by
  unfold cellOf; rw [h]; rfl
/-- the heap holds the memory M -/
def WD (K : WPar) (M : Mem) (H : Heap) : Prop := (∀ g i j, inR (M g i j)) ∧ ∀ (g : Nat) (i : Int), 0 ≤ i → i < gcnt g → va_at K.1 vwCl (kad K g i, cellOf K M g i) H
/-- the objects are apart, and none is older than the law -/
def ADK (K : WPar) : Prop := (∀ (g : Nat) (i : Int) (g' : Nat) (i' : Int), 0 ≤ i → i < gcnt g → 0 ≤ i' → i' < gcnt g' → kad K g i = kad K g' i' → g = g' ∧ i = i') ∧ ∀ (g : Nat) (i : Int), 0 ≤ i → i < gcnt g → kF K (kad K g i)
def updM (M : Mem) (g : Nat) (i j v : Int) : Mem := fun g' i' j' => if g' = g ∧ i' = i ∧ j' = j then v else M g' i' j'
theorem updM_g {M : Mem} {g g' : Nat} {i j v : Int} (h : g' ≠ g) : updM M g i j v g' = M g' := by
  funext i' j'
  simp [updM, h]
theorem updM_i {M : Mem} {g : Nat} {i j v i' : Int} (h : i' ≠ i) : updM M g i j v g i' = M g i' := by
  funext j'
  simp [updM, h]
theorem updM_same {M : Mem} {g : Nat} {i j v : Int} : updM M g i j v g i j = v := by simp [updM]
theorem updM_j {M : Mem} {g : Nat} {i j v j' : Int} (h : j' ≠ j) : updM M g i j v g i j' = M g i j' := by simp [updM, h]
def strs : List (Nat × String) := [(236, "out of range"), (62, "the hall has all its rows"), (227, "no such row or seat"), (79, "the seat is held or sold"), (220, "no such row"), (247, "there is no possible block"), (241, "there have been all tickets"), (129, "the block is not possible"), (250, "the group cannot be split"), (232, "no such ticket"), (239, "the ticket is no hold"), (168, "the hold has been extended twice"), (176, "the ticket is closed"), (190, "there are no holds"), (192, "the ticket is no booking"), (197, "the booking has several rows or sits in that row"), (205, "the ticket has no wish"), (210, "there is no chain")]
def isDC : Cond → Bool
  | .declares _ => true
  | .castable _ _ => true
  | _ => false
/-- what a throw wants of the heap and the tables -/
def SX (K : WPar) (U : State) : Prop := vx_Zq Bundle.tN "UNASSIGNED_STACK" Bundle.steD (kF K) U U.heap ∧ vx_Zq Bundle.tN "SUPPRESSED_SENTINEL" Bundle.listD (kF K) U U.heap ∧ (∀ q ∈ strs, ∃ sa : Nat, vk_R RX4 q.1 q.2 sa U) ∧ ∀ w ∈ lw_tbl, isDC w = true → va_Nw w U
def PRE (K : WPar) (M : Mem) (U : State) : Prop := WD K M U.heap ∧ va_K K.1 vwCl (ktys K) U ∧ SX K U ∧ ADK K
def ctQ (K : WPar) (P : OutT → Mem → Prop) : Array Value → State → Outcome → State → Prop := fun _ st oc t => (∃ (r : Option Int) (M1 : Mem), oc = .returned (r.map iV) ∧ P (.inl r) M1 ∧ WD K M1 t.heap) ∧ va_F (kF K) st t
def ctX (K : WPar) (P : OutT → Mem → Prop) : String → State → State → Prop := fun E st t => (∃ M1 : Mem, P (.inr E) M1 ∧ WD K M1 t.heap) ∧ va_F (kF K) st t
def mRm (μ : MInfo) : Room := { frames := μ.2.2.2.2.1.1, cells := μ.2.2.2.2.2.1.1, slots := μ.2.2.2.2.2.1.2, locals := μ.2.2.2.2.1.2 }
/-- a method's contract: called with these arguments on the memory M it comes to one of the ends that P tells -/
def CT (K : WPar) (l : Launch) (μ : MInfo) (avs : List Value) (M : Mem) (P : OutT → Mem → Prop) : Prop :=
  vx_Met l μ.1 (.code μ.1 μ.2.1 μ.2.2.1 μ.2.2.2.1 :: AL) (mRm μ) (va_Pc avs (PRE K M)) (ctQ K P) (ctX K P) μ.2.2.2.2.2.1.1 μ.2.2.2.2.2.1.2 (kF K)
/-- the same for a method with a table of handlers -/
def CTW (K : WPar) (l : Launch) (μ : MInfo) (avs : List Value) (M : Mem) (P : OutT → Mem → Prop) : Prop :=
  vx_Met l μ.1 (.codeWith μ.1 μ.2.1 μ.2.2.1 μ.2.2.2.1 μ.2.2.2.2.2.2 :: AL) (mRm μ) (va_Pc avs (PRE K M)) (ctQ K P) (ctX K P) μ.2.2.2.2.2.1.1 μ.2.2.2.2.2.1.2 (kF K)
def lvo : Nat → List (Option Value) → List (Nat × Value)
  | _, [] => []
  | k, none :: r => lvo (k + 1) r
  | k, some v :: r => (k, v) :: lvo (k + 1) r
def LH (ls : Array Slot) (nL : Nat) (L : List (Option Value)) : Prop := lv_has ls nL (lvo 0 L) ∧ L.length = nL ∧ ∀ v, some v ∈ L → v.category = 1
def CX (K : WPar) (l : Launch) (μ : MInfo) (Z : ZT) (p : Program) (s : State) (m : MethodId) (args : Array Value) (meth : Method) (c : Code) : Prop :=
  p.tables.exec = Jvm.exec ∧ c.code = μ.2.1 ∧ c.maxLocals = μ.2.2.1 ∧ s.vm.findClass μ.1.cls = some m.cls ∧ (∀ w ∈ AL, w.before args s = true) ∧ meth.sig.returnType = μ.2.2.2.1 ∧ meth.locks = false ∧ c.exceptionTable.toList = tableOf μ.2.2.2.2.2.2 ∧ va_K K.1 vwCl (ktys K) s ∧ SX K s ∧ ADK K ∧ l.stackTraces = false ∧ Z.1 s args
def AW (K : WPar) (l : Launch) (μ : MInfo) (Z : ZT) (pc : Nat) (L : List (Option Value)) (st : List Value) (M : Mem) (cells slots : Nat) : Prop :=
  ∀ (p : Program) (e : Env) (s : State) (m : MethodId) (args : Array Value) (below : List Frame) (meth : Method) (c : Code) (H : Heap) (locs : List Loc) (ls : Array Slot),
    CX K l μ Z p s m args meth c → LH ls μ.2.2.1 L → WD K M H → va_S (kF K) s.heap H locs →
    W p l e (mRm μ) s m args below meth c H locs cells slots (Z.2 below args s) (F0 m pc ls st)
def AX (K : WPar) (l : Launch) (μ : MInfo) (Z : ZT) (pc : Nat) (L : List (Option Value)) (st : List Value) (M : Mem) (cells slots : Nat) (E : String) : Prop :=
  ∀ (p : Program) (e : Env) (s : State) (m : MethodId) (args : Array Value) (below : List Frame) (meth : Method) (c : Code) (H : Heap) (locs : List Loc) (ls : Array Slot) (q : Addr) (ce : Cell),
    CX K l μ Z p s m args meth c → LH ls μ.2.2.1 L → WD K M H → va_S (kF K) s.heap H locs → H[q]? = some ce → ce.vm = .none → s.vm.findClass E = some ce.cls →
    vx_W p l e (mRm μ) s m args below meth c H locs cells slots (Z.2 below args s) (F0 m pc ls st) q
/-- a method's own end -/
def ZM (K : WPar) (μ : MInfo) (P : OutT → Mem → Prop) : ZT := (fun _ _ => True, fun below args s => vx_MQ below (ctQ K P) (ctX K P) args s μ.2.2.2.2.2.1.1 μ.2.2.2.2.2.1.2 (kF K))


theorem lvo_get : ∀ (L : List (Option Value)) (k i : Nat) (v : Value), L[i]? = some (some v) → (k + i, v) ∈ lvo k L
  | [], _, _, _, h => by simp at h
  | none :: r, k, 0, v, h => by simp at h
  | none :: r, k, i + 1, v, h => by
    have := lvo_get r (k + 1) i v (by simpa using h)
    rw [show k + 1 + i = k + (i + 1) by omega] at this
    exact this
  | some w :: r, k, 0, v, h => by
    simp at h
    subst h
    exact List.mem_cons_self
  | some w :: r, k, i + 1, v, h => by
    have := lvo_get r (k + 1) i v (by simpa using h)
    rw [show k + 1 + i = k + (i + 1) by omega] at this
    exact List.mem_cons_of_mem _ this
theorem lvo_mem : ∀ (L : List (Option Value)) (k : Nat) (q : Nat × Value), q ∈ lvo k L → ∃ i, q.1 = k + i ∧ L[i]? = some (some q.2)
  | [], _, _, h => by cases h
  | none :: r, k, q, h => by
    obtain ⟨i, h1, h2⟩ := lvo_mem r (k + 1) q h
    exact ⟨i + 1, by omega, by simpa using h2⟩
  | some w :: r, k, q, h => by
    rcases List.mem_cons.mp h with rfl | h
    · exact ⟨0, rfl, rfl⟩
    · obtain ⟨i, h1, h2⟩ := lvo_mem r (k + 1) q h
      exact ⟨i + 1, by omega, by simpa using h2⟩
theorem LH.at {ls : Array Slot} {nL : Nat} {L : List (Option Value)} (h : LH ls nL L) {i : Nat} {v : Value} (hi : L[i]? = some (some v)) : ls[i]? = some (.val v) := by
  have h2 := lvo_get L 0 i v hi
  rw [Nat.zero_add] at h2
  exact h.1.2.2 (i, v) h2
theorem LH.set {ls ls' : Array Slot} {nL : Nat} {L : List (Option Value)} (h : LH ls nL L) {i : Nat} {v : Value} (hv : v.category = 1) (h' : lv_has ls' nL ((i, v) :: (lvo 0 L).filter (fun q => !(q.1 == i) && !(q.1 + 1 == i && q.2.category == 2)))) : LH ls' nL (L.set i (some v)) := by
  refine ⟨⟨h'.1, h'.2.1, fun q hq => ?_⟩, by rw [List.length_set]; exact h.2.1, fun w hw => ?_⟩
  · obtain ⟨j, h1, h2⟩ := lvo_mem _ _ _ hq
    rw [Nat.zero_add] at h1
    rw [List.getElem?_set] at h2
    by_cases hj : i = j
    · rw [if_pos hj] at h2
      split at h2
      · have e : v = q.2 := by simpa using h2
        have := h'.2.2 (i, v) List.mem_cons_self
        rw [h1, ← hj, ← e]
        exact this
      · cases h2
    · rw [if_neg hj] at h2
      have hm : (j, q.2) ∈ lvo 0 L := by
        have := lvo_get L 0 j q.2 h2
        rwa [Nat.zero_add] at this
      have hc : q.2.category = 1 := h.2.2 q.2 (List.mem_of_getElem? h2)
      have := h'.2.2 (j, q.2) (List.mem_cons_of_mem _ (List.mem_filter.mpr ⟨hm, by simp [hc, Ne.symm hj]⟩))
      rw [h1]
      exact this
  · rcases List.mem_or_eq_of_mem_set hw with h1 | h1
    · exact h.2.2 w h1
    · cases h1
      exact hv
/-- some locals are forgotten -/
def lwk : List (Option Value) → List (Option Value) → Prop
  | [], [] => True
  | a :: r, b :: q => (b = none ∨ a = b) ∧ lwk r q
  | _, _ => False
theorem lwk_get : ∀ {L L' : List (Option Value)}, lwk L L' → L'.length = L.length ∧ ∀ (i : Nat) (v : Value), L'[i]? = some (some v) → L[i]? = some (some v)
  | [], [], _ => ⟨rfl, fun _ _ h => by simp at h⟩
  | [], _ :: _, h => h.elim
  | _ :: _, [], h => h.elim
  | a :: r, b :: q, ⟨h1, h2⟩ => by
    obtain ⟨l1, l2⟩ := lwk_get h2
    refine ⟨by simp [l1], fun i v h => ?_⟩
    cases i with
    | zero =>
      simp at h
      rcases h1 with h1 | h1
      · rw [h1] at h; cases h
      · rw [h1, h]; rfl
    | succ i => exact l2 i v (by simpa using h)
theorem LH.weak {ls : Array Slot} {nL : Nat} {L L' : List (Option Value)} (h : LH ls nL L) (hw : lwk L L') : LH ls nL L' := by
  obtain ⟨l1, l2⟩ := lwk_get hw
  refine ⟨⟨h.1.1, h.1.2.1, fun q hq => ?_⟩, l1.trans h.2.1, fun v hv => ?_⟩
  · obtain ⟨i, h1, h2⟩ := lvo_mem _ _ _ hq
    rw [Nat.zero_add] at h1
    rw [h1]
    exact h.at (l2 i _ h2)
  · obtain ⟨i, hi⟩ := List.getElem?_of_mem hv
    exact h.2.2 v (List.mem_of_getElem? (l2 i v hi))
theorem ri {z : Int} (h : inR z) : (Int32.ofInt z).toInt = z := Int32.toInt_ofInt_of_le (by have := h.1; omega) (by have := h.2; omega)
theorem rn {z : Int} (h : inR z) : (Int32.ofInt z).toNatClampNeg = z.toNat := Int32.toNatClampNeg_ofInt_of_le (by have := h.1; omega) (by have := h.2; omega)
theorem r_lt {a b : Int} (ha : inR a) (hb : inR b) : Int32.ofInt a < Int32.ofInt b ↔ a < b := by rw [Int32.lt_iff_toInt_lt, ri ha, ri hb]
theorem r_le {a b : Int} (ha : inR a) (hb : inR b) : Int32.ofInt a ≤ Int32.ofInt b ↔ a ≤ b := by rw [Int32.le_iff_toInt_le, ri ha, ri hb]
theorem r_eq {a b : Int} (ha : inR a) (hb : inR b) : Int32.ofInt a = Int32.ofInt b ↔ a = b := by
  constructor
  · intro h
    rw [← ri ha, ← ri hb, h]
  · intro h; rw [h]
theorem r_z : (0 : Int32) = Int32.ofInt 0 := rfl
theorem r_0 : inR 0 := by decide
theorem r_vin {z : Int} {n : Nat} (h0 : 0 ≤ z) (h1 : z < n) (h2 : inR z) : vp_in (Int32.ofInt z) n := by
  refine vp_in_iff.mpr ?_
  rw [ri h2]
  exact ⟨h0, h1⟩
section AWS
variable {K : WPar} {l : Launch} {μ : MInfo} {Z : ZT} {pc : Nat} {L : List (Option Value)} {st : List Value} {M : Mem} {cells slots : Nat}
theorem aw_rng (k : (∀ g i j, inR (M g i j)) → AW K l μ Z pc L st M cells slots) : AW K l μ Z pc L st M cells slots := by
  intro p e s m args below meth c H locs ls C hl hW hS
  exact k hW.1 p e s m args below meth c H locs ls C hl hW hS
theorem aw_mem {M' : Mem} (h : M = M') (k : AW K l μ Z pc L st M' cells slots) : AW K l μ Z pc L st M cells slots := h ▸ k
theorem aw_st {st' : List Value} (h : st = st') (k : AW K l μ Z pc L st' M cells slots) : AW K l μ Z pc L st M cells slots := h ▸ k
theorem aw_wide {a b : Nat} (h1 : cells ≤ a) (h2 : slots ≤ b) (k : AW K l μ Z pc L st M a b) : AW K l μ Z pc L st M cells slots := by
  intro p e s m args below meth c H locs ls C hl hW hS
  exact W.widen h1 h2 (k p e s m args below meth c H locs ls C hl hW hS)
theorem aw_weak {L' : List (Option Value)} (h : lwk L L') (k : AW K l μ Z pc L' st M cells slots) : AW K l μ Z pc L st M cells slots := by
  intro p e s m args below meth c H locs ls C hl hW hS
  exact k p e s m args below meth c H locs ls C (hl.weak h) hW hS

theorem aw_iload_n {k : Fin 4} {i : Nat} {a : Int} (hd : decode μ.2.1 pc = .ok (.iload_n k, 1)) (hi : (k : Nat) = i) (hL : L[i]? = some (some (iV a))) (kk : AW K l μ Z (pc + 1) L (iV a :: st) M cells slots) : AW K l μ Z pc L st M cells slots := by
  intro p e s m args below meth c H locs ls C hl hW hS
  exact lv_iload_n C.1 C.2.1 hd hi (hl.at hL) (kk p e s m args below meth c H locs ls C hl hW hS)
theorem aw_iload {i : Nat} {a : Int} (hd : decode μ.2.1 pc = .ok (.iload i, 2)) (hL : L[i]? = some (some (iV a))) (kk : AW K l μ Z (pc + 2) L (iV a :: st) M cells slots) : AW K l μ Z pc L st M cells slots := by
  intro p e s m args below meth c H locs ls C hl hW hS
  exact lv_iload C.1 C.2.1 hd (hl.at hL) (kk p e s m args below meth c H locs ls C hl hW hS)
theorem aw_aload_n {k : Fin 4} {i : Nat} {a : Int} {g : Nat} (hd : decode μ.2.1 pc = .ok (.aload_n k, 1)) (hi : (k : Nat) = i) (hL : L[i]? = some (some (rV K g a))) (kk : AW K l μ Z (pc + 1) L (rV K g a :: st) M cells slots) : AW K l μ Z pc L st M cells slots := by
  intro p e s m args below meth c H locs ls C hl hW hS
  exact lv_aload_n C.1 C.2.1 hd hi (hl.at hL) (kk p e s m args below meth c H locs ls C hl hW hS)
theorem aw_aload {i : Nat} {a : Int} {g : Nat} (hd : decode μ.2.1 pc = .ok (.aload i, 2)) (hL : L[i]? = some (some (rV K g a))) (kk : AW K l μ Z (pc + 2) L (rV K g a :: st) M cells slots) : AW K l μ Z pc L st M cells slots := by
  intro p e s m args below meth c H locs ls C hl hW hS
  exact lv_aload C.1 C.2.1 hd (hl.at hL) (kk p e s m args below meth c H locs ls C hl hW hS)
theorem aw_iconst {n : Int} (hd : decode μ.2.1 pc = .ok (.iconst n, 1)) (kk : AW K l μ Z (pc + 1) L (iV n :: st) M cells slots) : AW K l μ Z pc L st M cells slots := by
  intro p e s m args below meth c H locs ls C hl hW hS
  exact lv_iconst C.1 C.2.1 hd rfl (kk p e s m args below meth c H locs ls C hl hW hS)
theorem aw_bipush {n : Int} (hd : decode μ.2.1 pc = .ok (.bipush n, 2)) (hv : (Int8.ofInt n).toInt32 = Int32.ofInt n) (kk : AW K l μ Z (pc + 2) L (iV n :: st) M cells slots) : AW K l μ Z pc L st M cells slots := by
  intro p e s m args below meth c H locs ls C hl hW hS
  exact lv_bipush C.1 C.2.1 hd hv (kk p e s m args below meth c H locs ls C hl hW hS)
theorem aw_sipush {n : Int} (hd : decode μ.2.1 pc = .ok (.sipush n, 3)) (hv : (Int16.ofInt n).toInt32 = Int32.ofInt n) (kk : AW K l μ Z (pc + 3) L (iV n :: st) M cells slots) : AW K l μ Z pc L st M cells slots := by
  intro p e s m args below meth c H locs ls C hl hW hS
  exact lv_sipush C.1 C.2.1 hd hv (kk p e s m args below meth c H locs ls C hl hW hS)
theorem aw_ldc {i : Nat} {v : Int32} {z : Int} (hd : decode μ.2.1 pc = .ok (.ldc i, 2)) (hc : Cond.constant μ.1.cls i v ∈ AL) (hv : v = Int32.ofInt z) (kk : AW K l μ Z (pc + 2) L (iV z :: st) M cells slots) : AW K l μ Z pc L st M cells slots := by
  intro p e s m args below meth c H locs ls C hl hW hS
  subst hv
  exact lv_ldc C.1 C.2.1 C.2.2.2.1 (C.2.2.2.2.1 _ hc) hd (kk p e s m args below meth c H locs ls C hl hW hS)
theorem aw_istore_n {k : Fin 4} {i : Nat} {a : Int} {L2 : List (Option Value)} (hd : decode μ.2.1 pc = .ok (.istore_n k, 1)) (hk : (k : Nat) = i) (hi : i < μ.2.2.1) (hL : L.set i (some (iV a)) = L2) (kk : AW K l μ Z (pc + 1) L2 st M cells slots) : AW K l μ Z pc L (iV a :: st) M cells slots := by
  intro p e s m args below meth c H locs ls C hl hW hS
  exact lv_istore_n C.1 C.2.1 hd hk hl.1 hi rfl (fun ls2 h2 => kk p e s m args below meth c H locs ls2 C (hL ▸ hl.set rfl h2) hW hS)
theorem aw_istore {i : Nat} {a : Int} {L2 : List (Option Value)} (hd : decode μ.2.1 pc = .ok (.istore i, 2)) (hi : i < μ.2.2.1) (hL : L.set i (some (iV a)) = L2) (kk : AW K l μ Z (pc + 2) L2 st M cells slots) : AW K l μ Z pc L (iV a :: st) M cells slots := by
  intro p e s m args below meth c H locs ls C hl hW hS
  exact lv_istore C.1 C.2.1 hd hl.1 hi rfl (fun ls2 h2 => kk p e s m args below meth c H locs ls2 C (hL ▸ hl.set rfl h2) hW hS)
theorem aw_astore_n {k : Fin 4} {i : Nat} {a : Int} {g : Nat} {L2 : List (Option Value)} (hd : decode μ.2.1 pc = .ok (.astore_n k, 1)) (hk : (k : Nat) = i) (hi : i < μ.2.2.1) (hL : L.set i (some (rV K g a)) = L2) (kk : AW K l μ Z (pc + 1) L2 st M cells slots) : AW K l μ Z pc L (rV K g a :: st) M cells slots := by
  intro p e s m args below meth c H locs ls C hl hW hS
  exact lv_astore_n C.1 C.2.1 hd hk hl.1 hi rfl (fun ls2 h2 => kk p e s m args below meth c H locs ls2 C (hL ▸ hl.set rfl h2) hW hS)
theorem aw_astore {i : Nat} {a : Int} {g : Nat} {L2 : List (Option Value)} (hd : decode μ.2.1 pc = .ok (.astore i, 2)) (hi : i < μ.2.2.1) (hL : L.set i (some (rV K g a)) = L2) (kk : AW K l μ Z (pc + 2) L2 st M cells slots) : AW K l μ Z pc L (rV K g a :: st) M cells slots := by
  intro p e s m args below meth c H locs ls C hl hW hS
  exact lv_astore C.1 C.2.1 hd hl.1 hi rfl (fun ls2 h2 => kk p e s m args below meth c H locs ls2 C (hL ▸ hl.set rfl h2) hW hS)
theorem aw_iinc {i : Nat} {n a : Int} {L2 : List (Option Value)} (hd : decode μ.2.1 pc = .ok (.iinc i n, 3)) (hg : L[i]? = some (some (iV a))) (hi : i < μ.2.2.1) (hL : L.set i (some (iV (a + n))) = L2) (kk : AW K l μ Z (pc + 3) L2 st M cells slots) : AW K l μ Z pc L st M cells slots := by
  intro p e s m args below meth c H locs ls C hl hW hS
  have hm := lvo_get L 0 i _ hg
  rw [Nat.zero_add] at hm
  obtain ⟨k, hk⟩ := List.getElem?_of_mem hm
  exact lv_iinc C.1 C.2.1 hd hl.1 hk (show Int32.ofInt a + Int32.ofInt n = Int32.ofInt (a + n) from (Int32.ofInt_add a n).symm) hi rfl (fun ls2 h2 => kk p e s m args below meth c H locs ls2 C (hL ▸ hl.set rfl h2) hW hS)
theorem aw_iadd {a b : Int} (hd : decode μ.2.1 pc = .ok (.iadd, 1)) (kk : AW K l μ Z (pc + 1) L (iV (b + a) :: st) M cells slots) : AW K l μ Z pc L (iV a :: iV b :: st) M cells slots := by
  intro p e s m args below meth c H locs ls C hl hW hS
  have k2 := kk p e s m args below meth c H locs ls C hl hW hS
  rw [show iV (b + a) = .int (Int32.ofInt b + Int32.ofInt a) from congrArg Value.int (Int32.ofInt_add b a)] at k2
  exact lv_iadd C.1 C.2.1 hd k2
theorem aw_isub {a b : Int} (hd : decode μ.2.1 pc = .ok (.isub, 1)) (kk : AW K l μ Z (pc + 1) L (iV (b - a) :: st) M cells slots) : AW K l μ Z pc L (iV a :: iV b :: st) M cells slots := by
  intro p e s m args below meth c H locs ls C hl hW hS
  have k2 := kk p e s m args below meth c H locs ls C hl hW hS
  rw [show iV (b - a) = .int (Int32.ofInt b - Int32.ofInt a) from congrArg Value.int (Int32.ofInt_sub b a)] at k2
  exact lv_isub C.1 C.2.1 hd k2
theorem aw_imul {a b : Int} (hd : decode μ.2.1 pc = .ok (.imul, 1)) (kk : AW K l μ Z (pc + 1) L (iV (b * a) :: st) M cells slots) : AW K l μ Z pc L (iV a :: iV b :: st) M cells slots := by
  intro p e s m args below meth c H locs ls C hl hW hS
  have k2 := kk p e s m args below meth c H locs ls C hl hW hS
  rw [show iV (b * a) = .int (Int32.ofInt b * Int32.ofInt a) from congrArg Value.int (Int32.ofInt_mul b a)] at k2
  exact lv_imul C.1 C.2.1 hd k2
theorem aw_ineg {a : Int} (hd : decode μ.2.1 pc = .ok (.ineg, 1)) (kk : AW K l μ Z (pc + 1) L (iV (-a) :: st) M cells slots) : AW K l μ Z pc L (iV a :: st) M cells slots := by
  intro p e s m args below meth c H locs ls C hl hW hS
  have k2 := kk p e s m args below meth c H locs ls C hl hW hS
  rw [show iV (-a) = .int (-Int32.ofInt a) from congrArg Value.int (Int32.ofInt_neg a)] at k2
  exact lv_ineg C.1 C.2.1 hd k2
theorem aw_idiv {a b : Int} (hd : decode μ.2.1 pc = .ok (.idiv, 1)) (hb : 0 ≤ b ∧ b ≤ 2147483647) (ha : 0 < a ∧ a ≤ 2147483647) (kk : AW K l μ Z (pc + 1) L (iV (b / a) :: st) M cells slots) : AW K l μ Z pc L (iV a :: iV b :: st) M cells slots := by
  intro p e s m args below meth c H locs ls C hl hW hS
  have k2 := kk p e s m args below meth c H locs ls C hl hW hS
  rw [show iV (b / a) = .int (Int32.ofInt b / Int32.ofInt a) from congrArg Value.int (by
    rw [← Int32.ofInt_tdiv (by show (-2147483648 : Int) ≤ b; omega) (by show b ≤ (2147483647 : Int); omega) (by show (-2147483648 : Int) ≤ a; omega) (by show a ≤ (2147483647 : Int); omega), Int.tdiv_eq_ediv_of_nonneg hb.1])] at k2
  exact lv_idiv C.1 C.2.1 hd (fun h => by
    have h1 := (r_eq (a := a) (b := 0) (by omega) r_0).mp h
    omega) k2
theorem aw_irem {a b : Int} (hd : decode μ.2.1 pc = .ok (.irem, 1)) (hb : 0 ≤ b ∧ b ≤ 2147483647) (ha : 0 < a ∧ a ≤ 2147483647) (kk : AW K l μ Z (pc + 1) L (iV (b % a) :: st) M cells slots) : AW K l μ Z pc L (iV a :: iV b :: st) M cells slots := by
  intro p e s m args below meth c H locs ls C hl hW hS
  have k2 := kk p e s m args below meth c H locs ls C hl hW hS
  rw [show iV (b % a) = .int (Int32.ofInt b - Int32.ofInt b / Int32.ofInt a * Int32.ofInt a) from congrArg Value.int (by
    rw [← Int32.ofInt_tdiv (by show (-2147483648 : Int) ≤ b; omega) (by show b ≤ (2147483647 : Int); omega) (by show (-2147483648 : Int) ≤ a; omega) (by show a ≤ (2147483647 : Int); omega), Int.tdiv_eq_ediv_of_nonneg hb.1, ← Int32.ofInt_mul, ← Int32.ofInt_sub]
    have := Int.emod_def b a
    rw [this, Int.mul_comm])] at k2
  exact lv_irem C.1 C.2.1 hd (fun h => by
    have h1 := (r_eq (a := a) (b := 0) (by omega) r_0).mp h
    omega) k2
theorem aw_icmp_lt {a b : Int} {off : Int} {tgt : Nat} (hd : decode μ.2.1 pc = .ok (.if_icmp .lt off, 3)) (ht : (pc : Int) + off = (tgt : Int)) (ha : inR a) (hb : inR b) (kt : a < b → AW K l μ Z tgt L st M cells slots) (kf : ¬ (a < b) → AW K l μ Z (pc + 3) L st M cells slots) : AW K l μ Z pc L (iV b :: iV a :: st) M cells slots := by
  intro p e s m args below meth c H locs ls C hl hW hS
  have kt := fun h => kt h p e s m args below meth c H locs ls C hl hW hS
  have kf := fun h => kf h p e s m args below meth c H locs ls C hl hW hS
  exact lv_icmp_lt C.1 C.2.1 hd ht (fun h => kt ((r_lt ha hb).mp h)) (fun h => kf (fun q => h ((r_lt ha hb).mpr q)))
theorem aw_if_lt {a : Int} {off : Int} {tgt : Nat} (hd : decode μ.2.1 pc = .ok (.ifCond .lt off, 3)) (ht : (pc : Int) + off = (tgt : Int)) (ha : inR a) (kt : a < 0 → AW K l μ Z tgt L st M cells slots) (kf : ¬ (a < 0) → AW K l μ Z (pc + 3) L st M cells slots) : AW K l μ Z pc L (iV a :: st) M cells slots := by
  intro p e s m args below meth c H locs ls C hl hW hS
  have kt := fun h => kt h p e s m args below meth c H locs ls C hl hW hS
  have kf := fun h => kf h p e s m args below meth c H locs ls C hl hW hS
  exact lv_if_lt C.1 C.2.1 hd ht (fun h => kt ((r_lt ha r_0).mp h)) (fun h => kf (fun q => h ((r_lt ha r_0).mpr q)))
theorem aw_icmp_ge {a b : Int} {off : Int} {tgt : Nat} (hd : decode μ.2.1 pc = .ok (.if_icmp .ge off, 3)) (ht : (pc : Int) + off = (tgt : Int)) (ha : inR a) (hb : inR b) (kt : b ≤ a → AW K l μ Z tgt L st M cells slots) (kf : ¬ (b ≤ a) → AW K l μ Z (pc + 3) L st M cells slots) : AW K l μ Z pc L (iV b :: iV a :: st) M cells slots := by
  intro p e s m args below meth c H locs ls C hl hW hS
  have kt := fun h => kt h p e s m args below meth c H locs ls C hl hW hS
  have kf := fun h => kf h p e s m args below meth c H locs ls C hl hW hS
  exact lv_icmp_ge C.1 C.2.1 hd ht (fun h => kt ((r_le hb ha).mp h)) (fun h => kf (fun q => h ((r_le hb ha).mpr q)))
theorem aw_if_ge {a : Int} {off : Int} {tgt : Nat} (hd : decode μ.2.1 pc = .ok (.ifCond .ge off, 3)) (ht : (pc : Int) + off = (tgt : Int)) (ha : inR a) (kt : 0 ≤ a → AW K l μ Z tgt L st M cells slots) (kf : ¬ (0 ≤ a) → AW K l μ Z (pc + 3) L st M cells slots) : AW K l μ Z pc L (iV a :: st) M cells slots := by
  intro p e s m args below meth c H locs ls C hl hW hS
  have kt := fun h => kt h p e s m args below meth c H locs ls C hl hW hS
  have kf := fun h => kf h p e s m args below meth c H locs ls C hl hW hS
  exact lv_if_ge C.1 C.2.1 hd ht (fun h => kt ((r_le r_0 ha).mp h)) (fun h => kf (fun q => h ((r_le r_0 ha).mpr q)))
theorem aw_icmp_eq {a b : Int} {off : Int} {tgt : Nat} (hd : decode μ.2.1 pc = .ok (.if_icmp .eq off, 3)) (ht : (pc : Int) + off = (tgt : Int)) (ha : inR a) (hb : inR b) (kt : a = b → AW K l μ Z tgt L st M cells slots) (kf : ¬ (a = b) → AW K l μ Z (pc + 3) L st M cells slots) : AW K l μ Z pc L (iV b :: iV a :: st) M cells slots := by
  intro p e s m args below meth c H locs ls C hl hW hS
  have kt := fun h => kt h p e s m args below meth c H locs ls C hl hW hS
  have kf := fun h => kf h p e s m args below meth c H locs ls C hl hW hS
  exact lv_icmp_eq C.1 C.2.1 hd ht (fun h => kt ((r_eq ha hb).mp h)) (fun h => kf (fun q => h ((r_eq ha hb).mpr q)))
theorem aw_if_eq {a : Int} {off : Int} {tgt : Nat} (hd : decode μ.2.1 pc = .ok (.ifCond .eq off, 3)) (ht : (pc : Int) + off = (tgt : Int)) (ha : inR a) (kt : a = 0 → AW K l μ Z tgt L st M cells slots) (kf : ¬ (a = 0) → AW K l μ Z (pc + 3) L st M cells slots) : AW K l μ Z pc L (iV a :: st) M cells slots := by
  intro p e s m args below meth c H locs ls C hl hW hS
  have kt := fun h => kt h p e s m args below meth c H locs ls C hl hW hS
  have kf := fun h => kf h p e s m args below meth c H locs ls C hl hW hS
  exact lv_if_eq C.1 C.2.1 hd ht (fun h => kt ((r_eq ha r_0).mp h)) (fun h => kf (fun q => h ((r_eq ha r_0).mpr q)))
theorem aw_icmp_ne {a b : Int} {off : Int} {tgt : Nat} (hd : decode μ.2.1 pc = .ok (.if_icmp .ne off, 3)) (ht : (pc : Int) + off = (tgt : Int)) (ha : inR a) (hb : inR b) (kt : a ≠ b → AW K l μ Z tgt L st M cells slots) (kf : a = b → AW K l μ Z (pc + 3) L st M cells slots) : AW K l μ Z pc L (iV b :: iV a :: st) M cells slots := by
  intro p e s m args below meth c H locs ls C hl hW hS
  have kt := fun h => kt h p e s m args below meth c H locs ls C hl hW hS
  have kf := fun h => kf h p e s m args below meth c H locs ls C hl hW hS
  exact lv_icmp_ne C.1 C.2.1 hd ht (fun h => kt (fun q => h ((r_eq ha hb).mpr q))) (fun h => kf ((r_eq ha hb).mp h))
theorem aw_if_ne {a : Int} {off : Int} {tgt : Nat} (hd : decode μ.2.1 pc = .ok (.ifCond .ne off, 3)) (ht : (pc : Int) + off = (tgt : Int)) (ha : inR a) (kt : a ≠ 0 → AW K l μ Z tgt L st M cells slots) (kf : a = 0 → AW K l μ Z (pc + 3) L st M cells slots) : AW K l μ Z pc L (iV a :: st) M cells slots := by
  intro p e s m args below meth c H locs ls C hl hW hS
  have kt := fun h => kt h p e s m args below meth c H locs ls C hl hW hS
  have kf := fun h => kf h p e s m args below meth c H locs ls C hl hW hS
  exact lv_if_ne C.1 C.2.1 hd ht (fun h => kt (fun q => h ((r_eq ha r_0).mpr q))) (fun h => kf ((r_eq ha r_0).mp h))
theorem aw_icmp_gt {a b : Int} {off : Int} {tgt : Nat} (hd : decode μ.2.1 pc = .ok (.if_icmp .gt off, 3)) (ht : (pc : Int) + off = (tgt : Int)) (ha : inR a) (hb : inR b) (kt : b < a → AW K l μ Z tgt L st M cells slots) (kf : ¬ (b < a) → AW K l μ Z (pc + 3) L st M cells slots) : AW K l μ Z pc L (iV b :: iV a :: st) M cells slots := by
  intro p e s m args below meth c H locs ls C hl hW hS
  have kt := fun h => kt h p e s m args below meth c H locs ls C hl hW hS
  have kf := fun h => kf h p e s m args below meth c H locs ls C hl hW hS
  exact lv_icmp_gt C.1 C.2.1 hd ht (fun h => kt ((r_lt hb ha).mp h)) (fun h => kf (fun q => h ((r_lt hb ha).mpr q)))
theorem aw_if_gt {a : Int} {off : Int} {tgt : Nat} (hd : decode μ.2.1 pc = .ok (.ifCond .gt off, 3)) (ht : (pc : Int) + off = (tgt : Int)) (ha : inR a) (kt : 0 < a → AW K l μ Z tgt L st M cells slots) (kf : ¬ (0 < a) → AW K l μ Z (pc + 3) L st M cells slots) : AW K l μ Z pc L (iV a :: st) M cells slots := by
  intro p e s m args below meth c H locs ls C hl hW hS
  have kt := fun h => kt h p e s m args below meth c H locs ls C hl hW hS
  have kf := fun h => kf h p e s m args below meth c H locs ls C hl hW hS
  exact lv_if_gt C.1 C.2.1 hd ht (fun h => kt ((r_lt r_0 ha).mp h)) (fun h => kf (fun q => h ((r_lt r_0 ha).mpr q)))
theorem aw_icmp_le {a b : Int} {off : Int} {tgt : Nat} (hd : decode μ.2.1 pc = .ok (.if_icmp .le off, 3)) (ht : (pc : Int) + off = (tgt : Int)) (ha : inR a) (hb : inR b) (kt : a ≤ b → AW K l μ Z tgt L st M cells slots) (kf : ¬ (a ≤ b) → AW K l μ Z (pc + 3) L st M cells slots) : AW K l μ Z pc L (iV b :: iV a :: st) M cells slots := by
  intro p e s m args below meth c H locs ls C hl hW hS
  have kt := fun h => kt h p e s m args below meth c H locs ls C hl hW hS
  have kf := fun h => kf h p e s m args below meth c H locs ls C hl hW hS
  exact lv_icmp_le C.1 C.2.1 hd ht (fun h => kt ((r_le ha hb).mp h)) (fun h => kf (fun q => h ((r_le ha hb).mpr q)))
theorem aw_if_le {a : Int} {off : Int} {tgt : Nat} (hd : decode μ.2.1 pc = .ok (.ifCond .le off, 3)) (ht : (pc : Int) + off = (tgt : Int)) (ha : inR a) (kt : a ≤ 0 → AW K l μ Z tgt L st M cells slots) (kf : ¬ (a ≤ 0) → AW K l μ Z (pc + 3) L st M cells slots) : AW K l μ Z pc L (iV a :: st) M cells slots := by
  intro p e s m args below meth c H locs ls C hl hW hS
  have kt := fun h => kt h p e s m args below meth c H locs ls C hl hW hS
  have kf := fun h => kf h p e s m args below meth c H locs ls C hl hW hS
  exact lv_if_le C.1 C.2.1 hd ht (fun h => kt ((r_le ha r_0).mp h)) (fun h => kf (fun q => h ((r_le ha r_0).mpr q)))
theorem aw_goto {off : Int} {tgt : Nat} (hd : decode μ.2.1 pc = .ok (.goto off, 3)) (ht : (pc : Int) + off = (tgt : Int)) (kk : AW K l μ Z tgt L st M cells slots) : AW K l μ Z pc L st M cells slots := by
  intro p e s m args below meth c H locs ls C hl hW hS
  exact lv_goto C.1 C.2.1 hd ht (kk p e s m args below meth c H locs ls C hl hW hS)
theorem aw_dup {v : Value} (hd : decode μ.2.1 pc = .ok (.dup, 1)) (hv : v.category = 1) (kk : AW K l μ Z (pc + 1) L (v :: v :: st) M cells slots) : AW K l μ Z pc L (v :: st) M cells slots := by
  intro p e s m args below meth c H locs ls C hl hW hS
  exact lv_dup C.1 C.2.1 hd hv (kk p e s m args below meth c H locs ls C hl hW hS)
theorem aw_dup2 {v w : Value} (hd : decode μ.2.1 pc = .ok (.dup2, 1)) (hv : v.category = 1) (hw : w.category = 1) (kk : AW K l μ Z (pc + 1) L (v :: w :: v :: w :: st) M cells slots) : AW K l μ Z pc L (v :: w :: st) M cells slots := by
  intro p e s m args below meth c H locs ls C hl hW hS
  exact lv_dup2_11 C.1 C.2.1 hd hv hw (kk p e s m args below meth c H locs ls C hl hW hS)

theorem aw_gets {g ci x N : Nat} {fs : List (Option Nat)} {C0 : String} {T : u_T} (hk : gk g = (0, ci, x, fs)) (hc : vwCl[ci]? = some (C0, T, N)) (hly : ∀ w ∈ u_ws C0 T N, w ∈ AL) (hcnt : gcnt g = 1) {idx k : Nat} {v : Value} (hd : decode μ.2.1 pc = .ok (.getfield idx, 3)) (hkN : k < N) (hl : Cond.fieldLink μ.1.cls idx (T k).1 (T k).2.1 (T k).2.2.1 ∈ AL) (hv : (fvals K (M g 0) fs 0)[k]? = some v) (kk : AW K l μ Z (pc + 3) L (v :: st) M cells slots) : AW K l μ Z pc L (rV K g 0 :: st) M cells slots := by
  intro p e s m args below meth c H locs ls C hl2 hW hS
  have hP : va_P K.1 vwCl [(kad K g 0, .inr (ci, fvals K (M g 0) fs 0))] H := by
    intro k0 q hq
    have : q = (kad K g 0, .inr (ci, fvals K (M g 0) fs 0)) := by
      cases k0 with
      | zero => simpa using hq.symm
      | succ _ => simp at hq
    rw [this, ← cellOf_obj (i := 0) hk]
    exact hW.2 g 0 (Int.le_refl 0) (by omega)
  exact va_get (D := K.1) (ci := ci) (v := v) (C := C0) (T := T) (N := N) (Ts := AL) C.1 C.2.1 C.2.2.2.2.1 hly C.2.2.2.1 C.2.2.2.2.2.2.2.2.1 hP 0 rfl hc k hkN (C.2.2.2.2.1 _ hl) (fun _ h9 => h9) hv hd (kk p e s m args below meth c H locs ls C hl2 hW hS)
theorem aw_geti {g ci x N : Nat} {fs : List (Option Nat)} {C0 : String} {T : u_T} (hk : gk g = (0, ci, x, fs)) (hc : vwCl[ci]? = some (C0, T, N)) (hly : ∀ w ∈ u_ws C0 T N, w ∈ AL) (hcnt : gcnt g = 1) {idx k : Nat} (kz : Int) (hz : (k : Int) = kz) (hd : decode μ.2.1 pc = .ok (.getfield idx, 3)) (hkN : k < N) (hl : Cond.fieldLink μ.1.cls idx (T k).1 (T k).2.1 (T k).2.2.1 ∈ AL) (hv : fs[k]? = some none) (kk : inR (M g 0 kz) → AW K l μ Z (pc + 3) L (iV (M g 0 kz) :: st) M cells slots) : AW K l μ Z pc L (rV K g 0 :: st) M cells slots := by
  subst hz
  refine aw_rng fun hM => ?_
  refine aw_gets hk hc hly hcnt hd hkN hl (v := iV (M g 0 (k : Int))) ?_ (kk (hM g 0 k))
  have := fvals_int K (M g 0) fs 0 k hv
  rwa [Nat.zero_add] at this
theorem aw_getr {g ci x N : Nat} {fs : List (Option Nat)} {C0 : String} {T : u_T} (hk : gk g = (0, ci, x, fs)) (hc : vwCl[ci]? = some (C0, T, N)) (hly : ∀ w ∈ u_ws C0 T N, w ∈ AL) (hcnt : gcnt g = 1) {idx k b : Nat} (hd : decode μ.2.1 pc = .ok (.getfield idx, 3)) (hkN : k < N) (hl : Cond.fieldLink μ.1.cls idx (T k).1 (T k).2.1 (T k).2.2.1 ∈ AL) (hv : fs[k]? = some (some b)) (kk : AW K l μ Z (pc + 3) L (rV K b 0 :: st) M cells slots) : AW K l μ Z pc L (rV K g 0 :: st) M cells slots :=
  aw_gets hk hc hly hcnt hd hkN hl (fvals_ref K (M g 0) b fs 0 k hv) kk
theorem fvals_other {K : WPar} {f f' : Int → Int} : ∀ (fs : List (Option Nat)) (b : Nat), (∀ k : Nat, b ≤ k → f (k : Int) = f' (k : Int)) → fvals K f fs b = fvals K f' fs b
  | [], _, _ => rfl
  | none :: r, b, h => by
    simp only [fvals]
    rw [h b (Nat.le_refl _), fvals_other r (b + 1) (fun k hk => h k (by omega))]
  | some _ :: r, b, h => by
    simp only [fvals]
    rw [fvals_other r (b + 1) (fun k hk => h k (by omega))]
theorem fvals_set {K : WPar} {f f' : Int → Int} {v : Int} : ∀ (fs : List (Option Nat)) (b k : Nat), fs[k]? = some none → (∀ j : Int, j ≠ ((b + k : Nat) : Int) → f' j = f j) → f' ((b + k : Nat) : Int) = v → (fvals K f fs b).set k (iV v) = fvals K f' fs b
  | [], _, _, h, _, _ => by simp at h
  | none :: r, b, 0, _, h1, h2 => by
    simp only [fvals, List.set_cons_zero]
    rw [fvals_other (f' := f') r (b + 1) (fun k hk => (h1 k (by omega)).symm), show f' (b : Int) = v from h2]
  | some _ :: r, b, 0, h, _, _ => by simp at h
  | none :: r, b, k + 1, h, h1, h2 => by
    have := fvals_set (K := K) (f := f) (f' := f') (v := v) r (b + 1) k (by simpa using h) (fun j hj => h1 j (by omega)) (by rw [show b + 1 + k = b + (k + 1) by omega]; exact h2)
    simp only [fvals, List.set_cons_succ]
    rw [this, h1 b (by omega)]
  | some _ :: r, b, k + 1, h, h1, h2 => by
    have := fvals_set (K := K) (f := f) (f' := f') (v := v) r (b + 1) k (by simpa using h) (fun j hj => h1 j (by omega)) (by rw [show b + 1 + k = b + (k + 1) by omega]; exact h2)
    simp only [fvals, List.set_cons_succ]
    rw [this]
theorem wd_upd {M M' : Mem} {H H' : Heap} {g : Nat} {i : Int} (hA : ADK K) (hW : WD K M H) (h0 : 0 ≤ i) (h1 : i < gcnt g) (hnew : va_at K.1 vwCl (kad K g i, cellOf K M' g i) H') (ho : ∀ q : Nat, q ≠ kad K g i → H'[q]? = H[q]?) (hr : ∀ g i j, inR (M' g i j)) (hc : ∀ g' i', ¬ (g' = g ∧ i' = i) → M' g' i' = M g' i') : WD K M' H' := by
  refine ⟨hr, fun g' i' a b => ?_⟩
  by_cases e : g' = g ∧ i' = i
  · obtain ⟨rfl, rfl⟩ := e
    exact hnew
  · have h2 := (hW.2 g' i' a b).kept (ho _ (fun q => e (hA.1 g' i' g i a b h0 h1 q)))
    unfold cellOf at h2 ⊢
    rw [hc g' i' e]
    exact h2
theorem updM_o {M : Mem} {g : Nat} {i j v : Int} {g' : Nat} {i' : Int} (h : ¬ (g' = g ∧ i' = i)) : updM M g i j v g' i' = M g' i' := by
  funext j'
  unfold updM
  rw [if_neg]
  intro q
  exact h ⟨q.1, q.2.1⟩
theorem updM_r {M : Mem} {g : Nat} {i j v : Int} (hM : ∀ g i j, inR (M g i j)) (hv : inR v) : ∀ g' i' j', inR (updM M g i j v g' i' j') := by
  intro g' i' j'
  unfold updM
  split
  · exact hv
  · exact hM g' i' j'
theorem wd_one {H : Heap} (hW : WD K M H) (g : Nat) (i : Int) (h0 : 0 ≤ i) (h1 : i < gcnt g) {e : va_E} (he : cellOf K M g i = e) : va_P K.1 vwCl [(kad K g i, e)] H := by
  intro k0 q hq
  have hq2 : q = (kad K g i, e) := by
    cases k0 with
    | zero => simpa using hq.symm
    | succ _ => simp at hq
  rw [hq2, ← he]
  exact hW.2 g i h0 h1
theorem aw_puti {g ci x N : Nat} {fs : List (Option Nat)} {C0 : String} {T : u_T} (ty0 : Nat → FieldType) (hty : ∀ k, k < N → parseFieldDescriptor (T k).2.2.1 = some (ty0 k)) (hnm : ∀ a, a < N → ∀ b, b < N → a ≠ b → (T a).2.1 ≠ (T b).2.1) (hk : gk g = (0, ci, x, fs)) (hc : vwCl[ci]? = some (C0, T, N)) (hly : ∀ w ∈ u_ws C0 T N, w ∈ AL) (hcnt : gcnt g = 1) {idx k : Nat} (kz : Int) (hz : (k : Int) = kz) {v : Int} {M' : Mem} (hd : decode μ.2.1 pc = .ok (.putfield idx, 3)) (hkN : k < N) (hl : Cond.fieldLink μ.1.cls idx (T k).1 (T k).2.1 (T k).2.2.1 ∈ AL) (hv : fs[k]? = some none) (hfin : (T k).2.2.2 = false) (hde : parseFieldDescriptor (T k).2.2.1 = some .int) (hr : inR v) (hM' : updM M g 0 kz v = M') (kk : AW K l μ Z (pc + 3) L st M' cells slots) : AW K l μ Z pc L (iV v :: rV K g 0 :: st) M cells slots := by
  subst hz
  subst hM'
  intro p e s m args below meth c H locs ls C hl2 hW hS
  have hts : ∀ w ∈ AL, w.before args s = true := C.2.2.2.2.1
  have hK := C.2.2.2.2.2.2.2.2.1
  have hown := C.2.2.2.1
  have hAD : ADK K := C.2.2.2.2.2.2.2.2.2.2.1
  have hap := va_apart (own := μ.1.cls) hts hly ty0 hty hnm hK hc
  have h00 : (0 : Int) < gcnt g := by omega
  have hcell := hW.2 g 0 (Int.le_refl 0) h00
  rw [cellOf_obj hk] at hcell
  obtain ⟨r, h1, cell, q1, q2, q3, q4⟩ := hcell
  have hr2 : r = (C0, T, N) := Option.some.inj (h1.symm.trans hc)
  subst hr2
  obtain ⟨hS2, hfc, kC, hkC, hkind⟩ := hK.1 ci _ hc
  obtain ⟨cf, kf, fi, f, hi, hsl⟩ := hS2 k hkN
  have hlay := hts _ (hly _ (u_in_lay hkN))
  unfold u_lay at hlay
  rw [if_neg (by rw [hfin]; decide)] at hlay
  have hst := (u_facts hfc hkC (u_lays hts hly hkN) hi).1
  have h6 := u_store (v := iV v) hfc hkC hkind hlay hi hde rfl rfl
  refine W.putK C.1 C.2.1 (f := f) ⟨hown, hts _ hl, ⟨_, _, _, hi⟩, hst⟩ (by rw [q2]; exact h6) q1 q3 (by rw [hsl]; exact k2_hasslot (q4 k hkN)) rfl rfl hd fun H' e1 e2 e3 => ?_
  rw [hsl] at e1 ⊢
  have hlen : k < (fvals K (M g 0) fs 0).length := by
    rw [fvals_len]
    exact (List.getElem?_eq_some_iff.mp hv).1
  have hnew : va_at K.1 vwCl (kad K g 0, .inr (ci, (fvals K (M g 0) fs 0).set k (iV v))) H' := ⟨_, hc, t_OB.to (V := updV (vp_V (fvals K (M g 0) fs 0)) k (iV v)) ⟨_, e1, q2, q3, t_set q4 hap hkN (iV v)⟩ (fun j _ => vp_updV_set hlen (iV v) j)⟩
  rw [fvals_set (f' := updM M g 0 (k : Int) v g 0) fs 0 k hv (fun j hj => updM_j (by rw [Nat.zero_add] at hj; exact hj)) (by rw [Nat.zero_add]; exact updM_same), ← cellOf_obj (M := updM M g 0 (k : Int) v) (i := 0) hk] at hnew
  exact kk p e s m args below meth c H' _ ls C hl2 (wd_upd hAD hW (Int.le_refl 0) h00 hnew e3 (updM_r hW.1 hr) (fun g' i' q => updM_o q)) (hS.put e2 e3 (hAD.2 g 0 (Int.le_refl 0) h00))
theorem aw_iald {g n x : Nat} {fs : List (Option Nat)} {i j : Int} (hk : gk g = (1, n, x, fs)) (hn : n ≤ 2147483647) (hd : decode μ.2.1 pc = .ok (.iaload, 1)) (hi : 0 ≤ i ∧ i < gcnt g) (hj : 0 ≤ j ∧ j < (n : Int)) (kk : inR (M g i j) → AW K l μ Z (pc + 1) L (iV (M g i j) :: st) M cells slots) : AW K l μ Z pc L (iV j :: rV K g i :: st) M cells slots := by
  intro p e s m args below meth c H locs ls C hl2 hW hS
  have hR : inR j := by omega
  have k2 := kk (hW.1 g i j) p e s m args below meth c H locs ls C hl2 hW hS
  refine va_iald (D := K.1) (tys := ktys K) C.1 C.2.1 C.2.2.2.2.2.2.2.2.1 (wd_one hW g i hi.1 hi.2 (cellOf_ints hk)) 0 0 rfl rfl (r_vin hj.1 hj.2 hR) hd ?_
  rw [rn hR, Int.toNat_of_nonneg hj.1]
  exact k2
theorem aw_aald {g n x : Nat} {fs : List (Option Nat)} {j : Int} (hk : gk g = (2, n, x, fs)) (hn : n ≤ 2147483647) (hcnt : gcnt g = 1) (hd : decode μ.2.1 pc = .ok (.aaload, 1)) (hj : 0 ≤ j ∧ j < (n : Int)) (kk : AW K l μ Z (pc + 1) L (rV K x j :: st) M cells slots) : AW K l μ Z pc L (iV j :: rV K g 0 :: st) M cells slots := by
  intro p e s m args below meth c H locs ls C hl2 hW hS
  have hR : inR j := by omega
  have k2 := kk p e s m args below meth c H locs ls C hl2 hW hS
  have hP := wd_one hW g 0 (Int.le_refl 0) (by omega) (cellOf_rows hk)
  have hK := C.2.2.2.2.2.2.2.2.1
  have hlt : j.toNat < n := by omega
  exact W.aald (v := rV K x j) (ty := .array .int) C.1 C.2.1 (hP 0 _ rfl) ((hK.2 2 _ rfl).1 n (fun t => va_rf (if t < n then some (kad K x (t : Int)) else none))) rfl (fun q => by cases q) (by show ¬ (_ ∨ (arrV _ _ _).slots.size ≤ _); rw [arrV_size]; exact r_vin hj.1 hj.2 hR) (by
    show (arrV _ _ _).slots[_]? = _
    rw [rn hR, arrV_read _ _ hlt]
    show some (va_rf (if j.toNat < n then some (kad K x ((j.toNat : Nat) : Int)) else none)) = some (rV K x j)
    rw [if_pos hlt, Int.toNat_of_nonneg hj.1]
    rfl) rfl rfl hd k2
theorem aw_iast {g n x : Nat} {fs : List (Option Nat)} {i j v : Int} {M' : Mem} (hk : gk g = (1, n, x, fs)) (hn : n ≤ 2147483647) (hd : decode μ.2.1 pc = .ok (.iastore, 1)) (hi : 0 ≤ i ∧ i < gcnt g) (hj : 0 ≤ j ∧ j < (n : Int)) (hr : inR v) (hM' : updM M g i j v = M') (kk : AW K l μ Z (pc + 1) L st M' cells slots) : AW K l μ Z pc L (iV v :: iV j :: rV K g i :: st) M cells slots := by
  subst hM'
  intro p e s m args below meth c H locs ls C hl2 hW hS
  have hR : inR j := by omega
  have hP := wd_one hW g i hi.1 hi.2 (cellOf_ints hk)
  have hK := C.2.2.2.2.2.2.2.2.1
  have hAD : ADK K := C.2.2.2.2.2.2.2.2.2.2.1
  refine W.iast C.1 C.2.1 (hP 0 _ rfl) ((hK.2 0 _ rfl).1 n (fun t => .int (Int32.ofInt (M g i (t : Int))))) (fun q => by cases q) (by show ¬ (_ ∨ (arrV _ _ _).slots.size ≤ _); rw [arrV_size]; exact r_vin hj.1 hj.2 hR) rfl rfl hd fun H1 e1 z oq => ?_
  have hnew : va_at K.1 vwCl (kad K g i, cellOf K (updM M g i j v) g i) H1 := by
    rw [cellOf_ints hk]
    show H1[kad K g i]? = some (vp_cell _ _)
    rw [e1, vp_cell_i, vp_cell_i, arrV_store, rn hR]
    congr 2
    funext q
    by_cases hq : q = j.toNat
    · subst hq
      rw [Int.toNat_of_nonneg hj.1, updM_same]
      simp [updV]
    · rw [updM_j (show (q : Int) ≠ j by omega)]
      simp [updV, hq]
  exact kk p e s m args below meth c H1 _ ls C hl2 (wd_upd hAD hW hi.1 hi.2 hnew oq (updM_r hW.1 hr) (fun g' i' q => updM_o q)) (hS.put z oq (hAD.2 g i hi.1 hi.2))
theorem aw_alen {g n x : Nat} {fs : List (Option Nat)} {i : Int} (hk : gk g = (1, n, x, fs)) (hd : decode μ.2.1 pc = .ok (.arraylength, 1)) (hi : 0 ≤ i ∧ i < gcnt g) (kk : AW K l μ Z (pc + 1) L (iV (n : Int) :: st) M cells slots) : AW K l μ Z pc L (rV K g i :: st) M cells slots := by
  intro p e s m args below meth c H locs ls C hl2 hW hS
  exact va_alen (D := K.1) (tys := ktys K) C.1 C.2.1 C.2.2.2.2.2.2.2.2.1 (wd_one hW g i hi.1 hi.2 (cellOf_ints hk)) 0 0 rfl rfl (by rfl) hd (kk p e s m args below meth c H locs ls C hl2 hW hS)

end AWS
end
section
theorem in_Throwable : Cond.initialized "java/lang/Throwable" ∈ AL := al_in 60 (by decide +kernel) rfl
theorem in_Exception : Cond.initialized "java/lang/Exception" ∈ AL := al_in 61 (by decide +kernel) rfl
theorem in_RuntimeException : Cond.initialized "java/lang/RuntimeException" ∈ AL := al_in 62 (by decide +kernel) rfl
theorem in_IllegalArgumentException : Cond.initialized "java/lang/IllegalArgumentException" ∈ AL := al_in 63 (by decide +kernel) rfl
theorem in_IllegalStateException : Cond.initialized "java/lang/IllegalStateException" ∈ AL := al_in 64 (by decide +kernel) rfl
theorem in_IndexOutOfBoundsException : Cond.initialized "java/lang/IndexOutOfBoundsException" ∈ AL := al_in 65 (by decide +kernel) rfl
theorem in_Math : Cond.initialized "java/lang/Math" ∈ AL := al_in 66 (by decide +kernel) rfl
/-! calls, ends, throws, the entry -/
theorem nw_same {w : Cond} (hd : isDC w = true) {u U : State} (h : u.vm = U.vm) (hZ : va_Nw w u) : va_Nw w U := by
  cases w with
  | declares x => exact va_Nw.same rfl h hZ
  | castable C T => exact va_Nw.same rfl h hZ
  | _ => cases hd
theorem nw_warm {w : Cond} (hd : isDC w = true) {s U : State} (hW : s.WarmedH U.vm) (hZ : va_Nw w s) : va_Nw w U := by
  cases w with
  | declares x => exact va_Nw.warmD hW hZ
  | castable C T => exact va_Nw.warmC hW hZ
  | _ => cases hd
theorem nw_use {w : Cond} (hd : isDC w = true) {args : Array Value} {U : State} (hZ : va_Nw w U) : w.before args U = true := by
  cases w with
  | declares x => exact va_Nw.use rfl hZ
  | castable C T => exact va_Nw.use rfl hZ
  | _ => cases hd
theorem sx_at {K : WPar} {s U : State} {H : Heap} {locs : List Loc} (h : SX K s) (hW : s.WarmedH U.vm) (hU : U.heap = H) (hS : va_S (kF K) s.heap H locs) : SX K U := by
  obtain ⟨a, b, c, d⟩ := h
  have kp : ∀ q : Nat, q < s.heap.size → ¬ kF K q → U.heap[q]? = s.heap[q]? := fun q h1 h2 => by rw [hU]; exact hS.2.1 q h1 h2
  refine ⟨vx_Zq.kept (vx_Zq.moved hW.alike a) kp, vx_Zq.kept (vx_Zq.moved hW.alike b) kp, fun q hq => ?_, fun w hw hd => nw_warm hd hW (d w hw hd)⟩
  obtain ⟨sa, h⟩ := c q hq
  exact ⟨sa, vk_R.warm hW h⟩
theorem pre_blind {K : WPar} {avs : List Value} {M : Mem} : FrameBlind (va_Pc avs (PRE K M)) := by
  intro a U g mk ⟨h1, hWd, hK, ⟨s1, s2, s3, s4⟩, hA⟩
  refine ⟨h1, hWd, va_K.moved (u := U) (U := U.calling g mk a) (Vm.Alike.refl U.vm) hK, ⟨vx_Zq.moved (u := U) (U := U.calling g mk a) (Vm.Alike.refl U.vm) s1, vx_Zq.moved (u := U) (U := U.calling g mk a) (Vm.Alike.refl U.vm) s2, fun q hq => ?_, fun w hw hd => nw_same (u := U) hd rfl (s4 w hw hd)⟩, hA⟩
  obtain ⟨sa, h⟩ := s3 q hq
  exact ⟨sa, vk_R.same (u := U) rfl h⟩
theorem pre_at {K : WPar} {M : Mem} {s U : State} {H : Heap} {locs : List Loc} (hWd : WD K M H) (hK : va_K K.1 vwCl (ktys K) s) (hSX : SX K s) (hA : ADK K) (hS : va_S (kF K) s.heap H locs) (hU : U.heap = H) (hW : s.WarmedH U.vm) : PRE K M U :=
  ⟨by rw [hU]; exact hWd, va_K.moved hW.alike hK, sx_at hSX hW hU hS, hA⟩
abbrev CALV (ν : MInfo) (n : Nat) : Prop := Cond.code ν.1 ν.2.1 ν.2.2.1 ν.2.2.2.1 ∈ AL ∧ Cond.instanceMethod ν.1 ∈ AL ∧ Cond.selects ν.1.cls ν.1 ν.1 ∈ AL ∧ Cond.initialized ν.1.cls ∈ AL ∧ ν.1.cls ≠ "java/lang/invoke/MethodHandle" ∧ ν.1.cls ≠ "java/lang/invoke/VarHandle" ∧ (parseMethodDescriptor ν.1.desc).map (fun d => d.parameters.length) = some n
abbrev CALS (ν : MInfo) (n : Nat) : Prop := Cond.code ν.1 ν.2.1 ν.2.2.1 ν.2.2.2.1 ∈ AL ∧ Cond.static ν.1 ∈ AL ∧ Cond.initialized ν.1.cls ∈ AL ∧ ν.1.cls ≠ "java/lang/invoke/MethodHandle" ∧ ν.1.cls ≠ "java/lang/invoke/VarHandle" ∧ (parseMethodDescriptor ν.1.desc).map (fun d => d.parameters.length) = some n
theorem al_good {ν : MInfo} (h : Cond.code ν.1 ν.2.1 ν.2.2.1 ν.2.2.2.1 ∈ AL) : GoodIn AL (Cond.code ν.1 ν.2.1 ν.2.2.1 ν.2.2.2.1 :: AL) := by
  have g : ∀ w ∈ AL, w ∈ AL ∧ ((w.onTables && w.keeps) = true ∨ ∃ ty, w = .arrayClass ty) := fun w hw => ⟨hw, good_of_word (List.mem_filter.mp hw).2⟩
  intro w hw
  rcases List.mem_cons.mp hw with rfl | hw
  · exact g _ h
  · exact g _ hw
section AWC
variable {K : WPar} {l : Launch} {μ : MInfo} {Z : ZT} {pc : Nat} {L : List (Option Value)} {st : List Value} {M : Mem} {cells slots : Nat}
theorem aw_go {p : Program} {e : Env} {s : State} {m : MethodId} {args : Array Value} {below : List Frame} {meth : Method} {c : Code} {H : Heap} {locs : List Loc} {ls : Array Slot} {mc ms : Nat} {st0 rest : List Value} {P' : OutT → Mem → Prop} {a : Array Value}
    (C : CX K l μ Z p s m args meth c) (hl : LH ls μ.2.2.1 L) (hS : va_S (kF K) s.heap H locs)
    (hr : vx_Run p l e (mRm μ) s m args below meth c H locs cells slots mc ms (F0 m pc ls st0) rest (ctQ K P' a) (ctX K P') (kF K))
    (kr : ∀ r M1, P' (.inl r) M1 → AW K l μ Z (pc + 3) L ((r.map iV).toList ++ rest) M1 (cells + mc) (slots + ms))
    (kx : ∀ E M1, P' (.inr E) M1 → AX K l μ Z pc L rest M1 (cells + mc) (slots + ms) E) : W p l e (mRm μ) s m args below meth c H locs cells slots (Z.2 below args s) (F0 m pc ls st0) := by
  intro T hT X
  rcases hr T hT X with ⟨v, st₀, t, T', L', h0, X', hL, e1, e2, ⟨⟨r, M1, hv, hp, hb⟩, hF⟩, st⟩ | ⟨q, st₀, t, T', L', E, ce, h0, X', hL, e1, e2, ⟨⟨M1, hp, hb⟩, hF⟩, hce, hcv, hcl, st⟩
  · have hv2 : v = r.map iV := by simpa using hv
    subst hv2
    obtain ⟨k1, k2, k3⟩ := vx_keep h0 e1 hS (fun _ _ h => h) (fun _ h => h) hL hF
    obtain ⟨t2, a1, b1⟩ := kr r M1 hp p e s m args below meth c T'.heap (locs ++ L') ls C hl (by rw [e1]; exact hb) k3 T' rfl X'
    exact ⟨t2, st t2 a1, b1⟩
  · obtain ⟨k1, k2, k3⟩ := vx_keep h0 e1 hS (fun _ _ h => h) (fun _ h => h) hL hF
    obtain ⟨t2, a1, b1⟩ := kx E M1 hp p e s m args below meth c T'.heap (locs ++ L') ls q ce C hl (by rw [e1]; exact hb) k3 (by rw [e1]; exact hce) hcv hcl T' rfl X'
    exact ⟨t2, st.trans a1, b1⟩
theorem aw_callV {ν : MInfo} {n g ci x N idx : Nat} {T : u_T} {fs : List (Option Nat)} {As rest : List Value} {P' : OutT → Mem → Prop} (hCT : CT K l ν (rV K g 0 :: As) M P') (hcal : CALV ν n) (hd : decode μ.2.1 pc = .ok (.invokevirtual idx, 3)) (hli : Cond.methodLink μ.1.cls idx ν.1 ∈ AL) (hk : gk g = (0, ci, x, fs)) (hc : vwCl[ci]? = some (ν.1.cls, T, N)) (hcnt : gcnt g = 1) (hn : As.length = n) (hst : st = As.reverse ++ rV K g 0 :: rest) (hre : (rest.map fun v => v.category).sum ≤ 8)
    (hR : (mRm ν).frames + 1 ≤ (mRm μ).frames ∧ 8 + (ν.2.2.1 + 11) + (mRm ν).locals ≤ (mRm μ).locals) (hf : cells + (mRm ν).cells ≤ (mRm μ).cells ∧ slots + (mRm ν).slots ≤ (mRm μ).slots)
    (kr : ∀ r M1, P' (.inl r) M1 → AW K l μ Z (pc + 3) L ((r.map iV).toList ++ rest) M1 (cells + (mRm ν).cells) (slots + (mRm ν).slots))
    (kx : ∀ E M1, P' (.inr E) M1 → AX K l μ Z pc L rest M1 (cells + (mRm ν).cells) (slots + (mRm ν).slots) E) : AW K l μ Z pc L st M cells slots := by
  subst hst
  intro p e s m args below meth c H locs ls C hl hW hS
  have hts : ∀ w ∈ AL, w.before args s = true := C.2.2.2.2.1
  have hK := C.2.2.2.2.2.2.2.2.1
  have hSX := C.2.2.2.2.2.2.2.2.2.1
  have hAD : ADK K := C.2.2.2.2.2.2.2.2.2.2.1
  have hrec := va_recv hK (wd_one hW g 0 (Int.le_refl 0) (by omega) (cellOf_obj hk)) hc (q0 := 0) rfl
  exact aw_go C hl hS (vx_runV (mc := (mRm ν).cells) (ms := (mRm ν).slots) (As := As) (rest := rest) ⟨C.1, C.2.1, C.2.2.1, C.2.2.2.1, hts⟩ hCT ⟨callB_of n hts (al_good hcal.1) rfl rfl rfl (hts _ hcal.2.2.2.1) (hts _ hli) hcal.2.2.2.2 hR, hts _ hcal.2.1, hts _ hcal.2.2.1⟩ ⟨pre_blind, hrec, fun U hU hWm => ⟨rfl, pre_at hW hK hSX hAD hS hU hWm⟩⟩ rfl hn hl.1.1 rfl (lv_room hre) hd hf) kr kx
theorem aw_callS {ν : MInfo} {n idx : Nat} {As rest : List Value} {P' : OutT → Mem → Prop} (hCT : CT K l ν As M P') (hcal : CALS ν n) (hd : decode μ.2.1 pc = .ok (.invokestatic idx, 3)) (hli : Cond.methodLink μ.1.cls idx ν.1 ∈ AL) (hn : As.length = n) (hst : st = As.reverse ++ rest) (hre : (rest.map fun v => v.category).sum ≤ 8)
    (hR : (mRm ν).frames + 1 ≤ (mRm μ).frames ∧ 8 + (ν.2.2.1 + 11) + (mRm ν).locals ≤ (mRm μ).locals) (hf : cells + (mRm ν).cells ≤ (mRm μ).cells ∧ slots + (mRm ν).slots ≤ (mRm μ).slots)
    (kr : ∀ r M1, P' (.inl r) M1 → AW K l μ Z (pc + 3) L ((r.map iV).toList ++ rest) M1 (cells + (mRm ν).cells) (slots + (mRm ν).slots))
    (kx : ∀ E M1, P' (.inr E) M1 → AX K l μ Z pc L rest M1 (cells + (mRm ν).cells) (slots + (mRm ν).slots) E) : AW K l μ Z pc L st M cells slots := by
  subst hst
  intro p e s m args below meth c H locs ls C hl hW hS
  have hts : ∀ w ∈ AL, w.before args s = true := C.2.2.2.2.1
  have hK := C.2.2.2.2.2.2.2.2.1
  have hSX := C.2.2.2.2.2.2.2.2.2.1
  have hAD : ADK K := C.2.2.2.2.2.2.2.2.2.2.1
  exact aw_go C hl hS (vx_runS (mc := (mRm ν).cells) (ms := (mRm ν).slots) (As := As) (rest := rest) ⟨C.1, C.2.1, C.2.2.1, C.2.2.2.1, hts⟩ hCT ⟨callB_of n hts (al_good hcal.1) rfl rfl rfl (hts _ hcal.2.2.1) (hts _ hli) hcal.2.2.2 hR, hts _ hcal.2.1⟩ ⟨pre_blind, fun U hU hWm => ⟨rfl, pre_at hW hK hSX hAD hS hU hWm⟩⟩ rfl hn hl.1.1 rfl (lv_room hre) hd hf) kr kx
/-- the ends of a method that throws nothing, and whose answer is known -/
def rI (z : Int) (M1 : Mem) : OutT → Mem → Prop := fun o m => o = .inl (some z) ∧ m = M1
def rN (M1 : Mem) : OutT → Mem → Prop := fun o m => o = .inl none ∧ m = M1
theorem aw_cVi {ν : MInfo} {n g ci x N idx : Nat} {T : u_T} {fs : List (Option Nat)} {As rest : List Value} {z : Int} {M1 : Mem} (hCT : CT K l ν (rV K g 0 :: As) M (rI z M1)) (hcal : CALV ν n) (hd : decode μ.2.1 pc = .ok (.invokevirtual idx, 3)) (hli : Cond.methodLink μ.1.cls idx ν.1 ∈ AL) (hk : gk g = (0, ci, x, fs)) (hc : vwCl[ci]? = some (ν.1.cls, T, N)) (hcnt : gcnt g = 1) (hn : As.length = n) (hst : st = As.reverse ++ rV K g 0 :: rest) (hre : (rest.map fun v => v.category).sum ≤ 8)
    (hR : (mRm ν).frames + 1 ≤ (mRm μ).frames ∧ 8 + (ν.2.2.1 + 11) + (mRm ν).locals ≤ (mRm μ).locals) (h0 : (mRm ν).cells = 0) (h1 : (mRm ν).slots = 0) (hf : cells ≤ (mRm μ).cells ∧ slots ≤ (mRm μ).slots)
    (kk : AW K l μ Z (pc + 3) L (iV z :: rest) M1 cells slots) : AW K l μ Z pc L st M cells slots := by
  refine aw_callV hCT hcal hd hli hk hc hcnt hn hst hre hR (by rw [h0, h1]; exact hf) (fun r M2 h => ?_) (fun E M2 h => ?_)
  · obtain ⟨e1, e2⟩ := h
    cases e1
    rw [h0, h1, e2]
    exact kk
  · cases h.1
theorem aw_cVn {ν : MInfo} {n g ci x N idx : Nat} {T : u_T} {fs : List (Option Nat)} {As rest : List Value} {M1 : Mem} (hCT : CT K l ν (rV K g 0 :: As) M (rN M1)) (hcal : CALV ν n) (hd : decode μ.2.1 pc = .ok (.invokevirtual idx, 3)) (hli : Cond.methodLink μ.1.cls idx ν.1 ∈ AL) (hk : gk g = (0, ci, x, fs)) (hc : vwCl[ci]? = some (ν.1.cls, T, N)) (hcnt : gcnt g = 1) (hn : As.length = n) (hst : st = As.reverse ++ rV K g 0 :: rest) (hre : (rest.map fun v => v.category).sum ≤ 8)
    (hR : (mRm ν).frames + 1 ≤ (mRm μ).frames ∧ 8 + (ν.2.2.1 + 11) + (mRm ν).locals ≤ (mRm μ).locals) (h0 : (mRm ν).cells = 0) (h1 : (mRm ν).slots = 0) (hf : cells ≤ (mRm μ).cells ∧ slots ≤ (mRm μ).slots)
    (kk : AW K l μ Z (pc + 3) L rest M1 cells slots) : AW K l μ Z pc L st M cells slots := by
  refine aw_callV hCT hcal hd hli hk hc hcnt hn hst hre hR (by rw [h0, h1]; exact hf) (fun r M2 h => ?_) (fun E M2 h => ?_)
  · obtain ⟨e1, e2⟩ := h
    cases e1
    rw [h0, h1, e2]
    exact kk
  · cases h.1
theorem aw_cSi {ν : MInfo} {n idx : Nat} {As rest : List Value} {z : Int} {M1 : Mem} (hCT : CT K l ν As M (rI z M1)) (hcal : CALS ν n) (hd : decode μ.2.1 pc = .ok (.invokestatic idx, 3)) (hli : Cond.methodLink μ.1.cls idx ν.1 ∈ AL) (hn : As.length = n) (hst : st = As.reverse ++ rest) (hre : (rest.map fun v => v.category).sum ≤ 8)
    (hR : (mRm ν).frames + 1 ≤ (mRm μ).frames ∧ 8 + (ν.2.2.1 + 11) + (mRm ν).locals ≤ (mRm μ).locals) (h0 : (mRm ν).cells = 0) (h1 : (mRm ν).slots = 0) (hf : cells ≤ (mRm μ).cells ∧ slots ≤ (mRm μ).slots)
    (kk : AW K l μ Z (pc + 3) L (iV z :: rest) M1 cells slots) : AW K l μ Z pc L st M cells slots := by
  refine aw_callS hCT hcal hd hli hn hst hre hR (by rw [h0, h1]; exact hf) (fun r M2 h => ?_) (fun E M2 h => ?_)
  · obtain ⟨e1, e2⟩ := h
    cases e1
    rw [h0, h1, e2]
    exact kk
  · cases h.1
/-- the ends -/
theorem aw_iret {P : OutT → Mem → Prop} {z : Int} {ty : FieldType} (hd : decode μ.2.1 pc = .ok (.ireturn, 1)) (hrt : μ.2.2.2.1 = some ty) (hn : narrow ty (iV z) = iV z) (h1 : cells ≤ (mRm μ).cells) (h2 : slots ≤ (mRm μ).slots) (hP : P (.inl (some z)) M) : AW K l μ (ZM K μ P) pc L [iV z] M cells slots := by
  intro p e s m args below meth c H locs ls C hl hW hS
  refine vx_ret (W.widen h1 h2 ?_)
  exact W.zret (v := Int32.ofInt z) C.1 C.2.1 (C.2.2.2.2.2.1.trans hrt) hn (fun t ht hWt => ⟨⟨some z, M, rfl, hP, by rw [ht]; exact hW⟩, hS.F ht⟩) hS.2.2 hd C.2.2.2.2.2.2.1
theorem aw_vret {P : OutT → Mem → Prop} (hd : decode μ.2.1 pc = .ok (.return_, 1)) (hrt : μ.2.2.2.1 = none) (h1 : cells ≤ (mRm μ).cells) (h2 : slots ≤ (mRm μ).slots) (hP : P (.inl none) M) : AW K l μ (ZM K μ P) pc L [] M cells slots := by
  intro p e s m args below meth c H locs ls C hl hW hS
  refine vx_ret (W.widen h1 h2 ?_)
  exact W.vret C.1 C.2.1 (C.2.2.2.2.2.1.trans hrt) (fun t ht hWt => ⟨⟨none, M, rfl, hP, by rw [ht]; exact hW⟩, hS.F ht⟩) hS.2.2 hd C.2.2.2.2.2.2.1
/-- what a callee threw goes on -/
theorem ax_out {P : OutT → Mem → Prop} {E : String} (htb : μ.2.2.2.2.2.2 = []) (h1 : cells ≤ (mRm μ).cells) (h2 : slots ≤ (mRm μ).slots) (hP : P (.inr E) M) : AX K l μ (ZM K μ P) pc L st M cells slots E := by
  intro p e s m args below meth c H locs ls q ce C hl hW hS hce hcv hcl
  have htab := C.2.2.2.2.2.2.2.1
  rw [htb] at htab
  exact vx_out (fun x hx => by rw [htab] at hx; cases hx) C.2.2.2.2.2.2.1 hce hcv hcl (fun t ht hWt => ⟨⟨M, hP, by rw [ht]; exact hW⟩, hS.F ht⟩) hS.2.2 h1 h2
abbrev nms : List String := ["java/lang/RuntimeException", "java/lang/Exception"]
abbrev ATW (ik ic : Nat) (E : String) : Prop := Bundle.fit E = true ∧ Cond.classLink RX4 ik E ∈ AL ∧ Cond.initialized E ∈ AL ∧ (∀ w ∈ vx_atS RX4 ic E nms, w ∈ lw_tbl) ∧ (∀ w ∈ vx_atS RX4 ic E nms, goodWord w = true ∨ isDC w = true) ∧ ∀ w ∈ Cond.classLink RX4 ik E :: Cond.initialized E :: vx_atS RX4 ic E nms, vx_ot w = true
theorem aw_throw {P : OutT → Mem → Prop} {E text : String} {ik is ic : Nat} (hA : ATW ik ic E) (hown : μ.1.cls = RX4) (htb : μ.2.2.2.2.2.2 = []) (hstr : (is, text) ∈ strs) (d0 : decode μ.2.1 pc = .ok (.new ik, 3)) (d3 : decode μ.2.1 (pc + 3) = .ok (.dup, 1)) (d4 : decode μ.2.1 (pc + 4) = .ok (.ldc is, 2)) (d6 : decode μ.2.1 (pc + 6) = .ok (.invokespecial ic, 3)) (d9 : decode μ.2.1 (pc + 9) = .ok (.athrow, 1)) (hfr : 5 < (mRm μ).frames) (hlo : (st.map fun v => v.category).sum + 82 ≤ (mRm μ).locals) (h1 : cells + 1 ≤ (mRm μ).cells) (h2 : slots + 6 ≤ (mRm μ).slots) (hP : P (.inr E) M) : AW K l μ (ZM K μ P) pc L st M cells slots := by
  intro p e s m args below meth c H locs ls C hl hW hS
  have hts : ∀ w ∈ AL, w.before args s = true := C.2.2.2.2.1
  have hSX := C.2.2.2.2.2.2.2.2.2.1
  have htab := C.2.2.2.2.2.2.2.1
  rw [htb] at htab
  have ho := C.2.2.2.1
  rw [hown] at ho
  obtain ⟨sa, hsa⟩ := hSX.2.2.1 _ hstr
  have hlt : ∀ (g : Nat) (i : Int), 0 ≤ i → i < gcnt g → kad K g i < H.size := fun g i a b => (hW.2 g i a b).lt
  exact vx_throwS (sa := sa) (names := nms) (A := kF K) C.1 C.2.1 C.2.2.2.2.2.2.2.2.2.2.2.1 ho hA.1 (by decide) (hts _ hA.2.1) (hts _ hA.2.2.1) hsa (fun w hw => by
    rcases hA.2.2.2.2.1 w hw with h | h
    · exact hts w (List.mem_filter.mpr ⟨hA.2.2.2.1 w hw, h⟩)
    · exact nw_use h (hSX.2.2.2 w (hA.2.2.2.1 w hw) h)) hA.2.2.2.2.2 hSX.1 hSX.2.1 hS (hl.1.1.trans C.2.2.1.symm) d0 d3 d4 d6 d9 (fun x hx => by rw [htab] at hx; cases hx) hfr hlo h1 h2 C.2.2.2.2.2.2.1
    (fun t hvm hz hk => ⟨⟨M, hP, hW.1, fun g i a b => (hW.2 g i a b).kept (hk _ (hlt g i a b))⟩, Nat.le_trans hS.1 hz, fun q h3 h4 => by rw [hk q (Nat.lt_of_lt_of_le h3 hS.1)]; exact hS.2.1 q h3 h4⟩) hS.2.2 h1 h2
/-- from the contract to the walk -/
theorem aw_met {P : OutT → Mem → Prop} {avs : List Value} (L0 : List (Option Value)) (hst : l.stackTraces = false) (hy : plainName μ.1.cls = true) (htb : μ.2.2.2.2.2.2 = []) (hlen : (lg_sl avs).length ≤ μ.2.2.1) (hL : lv_args 0 avs = lvo 0 L0) (hLl : L0.length = μ.2.2.1) (hcat : ∀ v, some v ∈ L0 → v.category = 1) (k : AW K l μ (ZM K μ P) 0 L0 [] M 0 0) : CT K l μ avs M P := by
  refine vx_ofW (cc := μ.2.1) (maxL := μ.2.2.1) (ret := μ.2.2.2.1) hy rfl ?_
  intro p e s m args below meth c s₁ B hml hex hv
  obtain ⟨rfl, hWd, hK, hS, hA⟩ := hv
  have hts := atoms_spec (ws := .code μ.1 μ.2.1 μ.2.2.1 μ.2.2.2.1 :: AL) B.pre
  rw [lg_entry_eq]
  have hle := lv_entry avs hlen
  rw [hL] at hle
  exact k p e s m _ below meth c s.heap [] _ ⟨B.exec, B.bytes, hml, findClass_of_methodNamed B.named, fun w hw => hts w (List.mem_cons_of_mem _ hw), B.returns, B.notSynchronized, by rw [htb]; exact List.eq_nil_iff_forall_not_mem.mpr (fun x hx => hex x hx), hK, hS, hA, hst, trivial⟩ ⟨hle, hLl, hcat⟩ hWd va_S.rf
theorem aw_mmax {a b : Int} {idx : Nat} (ha : inR a) (hb : inR b) (hd : decode μ.2.1 pc = .ok (.invokestatic idx, 3)) (hli : Cond.methodLink μ.1.cls idx Lib.Math.max.name ∈ AL) (hfr : 1 ≤ (mRm μ).frames) (hlo : (st.map fun v => v.category).sum + 13 ≤ (mRm μ).locals) (h1 : cells ≤ (mRm μ).cells) (h2 : slots ≤ (mRm μ).slots) (kk : AW K l μ Z (pc + 3) L (iV (max a b) :: st) M cells slots) : AW K l μ Z pc L (iV b :: iV a :: st) M cells slots := by
  intro p e s m args below meth c H locs ls C hl hW hS
  have hts : ∀ w ∈ AL, w.before args s = true := C.2.2.2.2.1
  have k2 := kk p e s m args below meth c H locs ls C hl hW hS
  refine va_mmax C.1 C.2.1 (C.2.2.1.trans hl.1.1.symm) C.2.2.2.1 (hts _ hli) (hts _ st_Math_max) (hts _ in_Math) (hts _ co_Math_max) hfr hlo h1 h2 hd ?_
  have : (if Int32.ofInt a < Int32.ofInt b then Int32.ofInt b else Int32.ofInt a) = Int32.ofInt (max a b) := by
    by_cases h : a < b
    · rw [if_pos ((r_lt ha hb).mpr h), Int.max_eq_right (by omega)]
    · rw [if_neg (fun q => h ((r_lt ha hb).mp q)), Int.max_eq_left (by omega)]
  rw [this]
  exact k2
theorem aw_mmin {a b : Int} {idx : Nat} (ha : inR a) (hb : inR b) (hd : decode μ.2.1 pc = .ok (.invokestatic idx, 3)) (hli : Cond.methodLink μ.1.cls idx Lib.Math.min.name ∈ AL) (hfr : 1 ≤ (mRm μ).frames) (hlo : (st.map fun v => v.category).sum + 13 ≤ (mRm μ).locals) (h1 : cells ≤ (mRm μ).cells) (h2 : slots ≤ (mRm μ).slots) (kk : AW K l μ Z (pc + 3) L (iV (min a b) :: st) M cells slots) : AW K l μ Z pc L (iV b :: iV a :: st) M cells slots := by
  intro p e s m args below meth c H locs ls C hl hW hS
  have hts : ∀ w ∈ AL, w.before args s = true := C.2.2.2.2.1
  have k2 := kk p e s m args below meth c H locs ls C hl hW hS
  refine va_mmin C.1 C.2.1 (C.2.2.1.trans hl.1.1.symm) C.2.2.2.1 (hts _ hli) (hts _ st_Math_min) (hts _ in_Math) (hts _ co_Math_min) hfr hlo h1 h2 hd ?_
  have : (if Int32.ofInt b < Int32.ofInt a then Int32.ofInt b else Int32.ofInt a) = Int32.ofInt (min a b) := by
    by_cases h : b < a
    · rw [if_pos ((r_lt hb ha).mpr h), Int.min_eq_right (by omega)]
    · rw [if_neg (fun q => h ((r_lt hb ha).mp q)), Int.min_eq_left (by omega)]
  rw [this]
  exact k2
theorem aw_mabs {a : Int} {idx : Nat} (ha : inR a) (hd : decode μ.2.1 pc = .ok (.invokestatic idx, 3)) (hli : Cond.methodLink μ.1.cls idx Lib.Math.abs.name ∈ AL) (hfr : 1 ≤ (mRm μ).frames) (hlo : (st.map fun v => v.category).sum + 13 ≤ (mRm μ).locals) (h1 : cells ≤ (mRm μ).cells) (h2 : slots ≤ (mRm μ).slots) (kk : AW K l μ Z (pc + 3) L (iV (if 0 ≤ a then a else 0 - a) :: st) M cells slots) : AW K l μ Z pc L (iV a :: st) M cells slots := by
  intro p e s m args below meth c H locs ls C hl hW hS
  have hts : ∀ w ∈ AL, w.before args s = true := C.2.2.2.2.1
  have k2 := kk p e s m args below meth c H locs ls C hl hW hS
  refine va_mabs C.1 C.2.1 (C.2.2.1.trans hl.1.1.symm) C.2.2.2.1 (hts _ hli) (hts _ st_Math_abs) (hts _ in_Math) (hts _ co_Math_abs) hfr hlo h1 h2 hd ?_
  have : (if (0 : Int32) ≤ Int32.ofInt a then Int32.ofInt a else 0 - Int32.ofInt a) = Int32.ofInt (if 0 ≤ a then a else 0 - a) := by
    by_cases h : 0 ≤ a
    · rw [if_pos h, r_z, if_pos ((r_le r_0 ha).mpr h)]
    · rw [if_neg h, Int32.ofInt_sub, r_z, if_neg (fun q => h ((r_le r_0 ha).mp q))]
  rw [this]
  exact k2
end AWC
theorem at_ISE : ATW 60 64 "java/lang/IllegalStateException" := ⟨by decide, kl_X4_60, in_IllegalStateException, by decide +kernel, by decide +kernel, by decide +kernel⟩
theorem at_IAE : ATW 234 238 "java/lang/IllegalArgumentException" := ⟨by decide, kl_X4_234, in_IllegalArgumentException, by decide +kernel, by decide +kernel, by decide +kernel⟩
theorem at_IOB : ATW 218 222 "java/lang/IndexOutOfBoundsException" := ⟨by decide, kl_X4_218, in_IndexOutOfBoundsException, by decide +kernel, by decide +kernel, by decide +kernel⟩
end
