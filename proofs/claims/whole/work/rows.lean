section
-- ===== PART A: goes FIRST, ahead of the names: the tables' words, and 'selects' of the private methods out of them =====
/-- a private method of a class that the tables say can be made, by its rows of tables_1 -/
def lw_okq (q : MethodName × Nat) : Prop := (q.1.cls ≠ "java/lang/invoke/MethodHandle" ∧ q.1.cls ≠ "java/lang/invoke/VarHandle") ∧ Cond.instantiable q.1.cls q.2 ∈ tables_1 ∧ Cond.privateMethod q.1 ∈ tables_1 ∧ Cond.instanceMethod q.1 ∈ tables_1

theorem ts1 {w : Cond} (i : Nat) (h : tables_1_1[i]? = some w) : w ∈ tables_1 := List.mem_append_left _ (List.mem_of_getElem? h)
theorem ts2 {w : Cond} (i : Nat) (h : tables_1_2[i]? = some w) : w ∈ tables_1 := List.mem_append_right _ (List.mem_append_left _ (List.mem_of_getElem? h))
theorem ts3 {w : Cond} (i : Nat) (h : tables_1_3[i]? = some w) : w ∈ tables_1 := List.mem_append_right _ (List.mem_append_right _ (List.mem_append_left _ (List.mem_of_getElem? h)))
theorem ts4 {w : Cond} (i : Nat) (h : tables_1_4[i]? = some w) : w ∈ tables_1 := List.mem_append_right _ (List.mem_append_right _ (List.mem_append_right _ (List.mem_append_left _ (List.mem_of_getElem? h))))
theorem ts5 {w : Cond} (i : Nat) (h : tables_1_5[i]? = some w) : w ∈ tables_1 := List.mem_append_right _ (List.mem_append_right _ (List.mem_append_right _ (List.mem_append_right _ (List.mem_append_left _ (List.mem_of_getElem? h)))))
theorem ts6 {w : Cond} (i : Nat) (h : tables_1_6[i]? = some w) : w ∈ tables_1 := List.mem_append_right _ (List.mem_append_right _ (List.mem_append_right _ (List.mem_append_right _ (List.mem_append_right _ ((List.mem_of_getElem? h))))))
theorem lw_ne0 : (("CarryNets" : String) ≠ "java/lang/invoke/MethodHandle" ∧ ("CarryNets" : String) ≠ "java/lang/invoke/VarHandle") := by decide +kernel
theorem lw_ne1 : (("CarryNets$BestNets" : String) ≠ "java/lang/invoke/MethodHandle" ∧ ("CarryNets$BestNets" : String) ≠ "java/lang/invoke/VarHandle") := by decide +kernel
theorem lw_ne2 : (("CarryNets$Blocks" : String) ≠ "java/lang/invoke/MethodHandle" ∧ ("CarryNets$Blocks" : String) ≠ "java/lang/invoke/VarHandle") := by decide +kernel
theorem lw_ne3 : (("CarryNets$Clock" : String) ≠ "java/lang/invoke/MethodHandle" ∧ ("CarryNets$Clock" : String) ≠ "java/lang/invoke/VarHandle") := by decide +kernel
theorem lw_ne4 : (("CarryNets$Columns" : String) ≠ "java/lang/invoke/MethodHandle" ∧ ("CarryNets$Columns" : String) ≠ "java/lang/invoke/VarHandle") := by decide +kernel
theorem lw_ne5 : (("CarryNets$Judge" : String) ≠ "java/lang/invoke/MethodHandle" ∧ ("CarryNets$Judge" : String) ≠ "java/lang/invoke/VarHandle") := by decide +kernel
theorem lw_ne6 : (("CarryNets$Tape" : String) ≠ "java/lang/invoke/MethodHandle" ∧ ("CarryNets$Tape" : String) ≠ "java/lang/invoke/VarHandle") := by decide +kernel
theorem lw_ne7 : (("CarryNetsModel" : String) ≠ "java/lang/invoke/MethodHandle" ∧ ("CarryNetsModel" : String) ≠ "java/lang/invoke/VarHandle") := by decide +kernel
theorem lw_p0 : lw_okq (⟨"CarryNets", "freeNet", "()LCarryNets$Net;"⟩, 12) := ⟨lw_ne0, ts1 16 rfl, ts2 72 rfl, ts2 73 rfl⟩
theorem lw_p1 : lw_okq (⟨"CarryNets$Tape", "readToken", "()V"⟩, 7) := ⟨lw_ne6, ts1 26 rfl, ts2 80 rfl, ts2 81 rfl⟩
theorem lw_p2 : lw_okq (⟨"CarryNets$Tape", "byteAt", "(I)I"⟩, 7) := ⟨lw_ne6, ts1 26 rfl, ts2 84 rfl, ts2 85 rfl⟩
theorem lw_p3 : lw_okq (⟨"CarryNets$Tape", "readNumber", "()V"⟩, 7) := ⟨lw_ne6, ts1 26 rfl, ts2 91 rfl, ts2 92 rfl⟩
theorem lw_p4 : lw_okq (⟨"CarryNets$Tape", "refuseToken", "()Z"⟩, 7) := ⟨lw_ne6, ts1 26 rfl, ts2 98 rfl, ts2 99 rfl⟩
theorem lw_p5 : lw_okq (⟨"CarryNets$Tape", "refuse", "(I)Z"⟩, 7) := ⟨lw_ne6, ts1 26 rfl, ts2 102 rfl, ts2 103 rfl⟩
theorem lw_p6 : lw_okq (⟨"CarryNets$Tape", "readRow", "(LCarryNets$Net;I)Z"⟩, 7) := ⟨lw_ne6, ts1 26 rfl, ts2 117 rfl, ts2 118 rfl⟩
theorem lw_p7 : lw_okq (⟨"CarryNets", "keepNet", "()I"⟩, 12) := ⟨lw_ne0, ts1 16 rfl, ts2 138 rfl, ts2 139 rfl⟩
theorem lw_p8 : lw_okq (⟨"CarryNets", "netNumbered", "(I)LCarryNets$Net;"⟩, 12) := ⟨lw_ne0, ts1 16 rfl, ts2 182 rfl, ts2 183 rfl⟩
theorem lw_p9 : lw_okq (⟨"CarryNets$Judge", "lookAtCells", "(I)V"⟩, 7) := ⟨lw_ne5, ts1 77 rfl, ts2 208 rfl, ts2 209 rfl⟩
theorem lw_p10 : lw_okq (⟨"CarryNets$Judge", "lookAtTracks", "()V"⟩, 7) := ⟨lw_ne5, ts1 77 rfl, ts2 225 rfl, ts2 226 rfl⟩
theorem lw_p11 : lw_okq (⟨"CarryNets$Clock", "passRow", "(I)V"⟩, 5) := ⟨lw_ne3, ts1 112 rfl, ts3 25 rfl, ts3 26 rfl⟩
theorem lw_p12 : lw_okq (⟨"CarryNets$BestNets", "startState", "()I"⟩, 8) := ⟨lw_ne1, ts1 139 rfl, ts3 70 rfl, ts3 71 rfl⟩
theorem lw_p13 : lw_okq (⟨"CarryNets$BestNets", "waysOn", "(III)I"⟩, 8) := ⟨lw_ne1, ts1 139 rfl, ts3 74 rfl, ts3 75 rfl⟩
theorem lw_p14 : lw_okq (⟨"CarryNets$BestNets", "found", "(I)I"⟩, 8) := ⟨lw_ne1, ts1 139 rfl, ts3 78 rfl, ts3 79 rfl⟩
theorem lw_p15 : lw_okq (⟨"CarryNets$BestNets", "longestChain", "(I)I"⟩, 8) := ⟨lw_ne1, ts1 139 rfl, ts3 84 rfl, ts3 85 rfl⟩
theorem lw_p16 : lw_okq (⟨"CarryNets$BestNets", "waysByRows", "(III)I"⟩, 8) := ⟨lw_ne1, ts1 139 rfl, ts3 92 rfl, ts3 93 rfl⟩
theorem lw_p17 : lw_okq (⟨"CarryNets$BestNets", "openPlaces", "(I)I"⟩, 8) := ⟨lw_ne1, ts1 139 rfl, ts3 96 rfl, ts3 97 rfl⟩
theorem lw_p18 : lw_okq (⟨"CarryNets$BestNets", "unreadyPlaces", "(I)I"⟩, 8) := ⟨lw_ne1, ts1 139 rfl, ts3 100 rfl, ts3 101 rfl⟩
theorem lw_p19 : lw_okq (⟨"CarryNets$BestNets", "loadsFit", "(II)Z"⟩, 8) := ⟨lw_ne1, ts1 139 rfl, ts3 105 rfl, ts3 106 rfl⟩
theorem lw_p20 : lw_okq (⟨"CarryNets$BestNets", "joined", "(II)I"⟩, 8) := ⟨lw_ne1, ts1 139 rfl, ts3 109 rfl, ts3 110 rfl⟩
theorem lw_p21 : lw_okq (⟨"CarryNets$Blocks", "fewestSkipBlocks", "(II)I"⟩, 3) := ⟨lw_ne2, ts1 172 rfl, ts3 154 rfl, ts3 155 rfl⟩
theorem lw_p22 : lw_okq (⟨"CarryNets$Blocks", "allowNoBlocks", "(I)V"⟩, 3) := ⟨lw_ne2, ts1 172 rfl, ts3 158 rfl, ts3 159 rfl⟩
theorem lw_p23 : lw_okq (⟨"CarryNets$Blocks", "allowBlocks", "(II)V"⟩, 3) := ⟨lw_ne2, ts1 172 rfl, ts3 163 rfl, ts3 164 rfl⟩
theorem lw_p24 : lw_okq (⟨"CarryNets$Blocks", "greatestSize", "(I)I"⟩, 3) := ⟨lw_ne2, ts1 172 rfl, ts3 167 rfl, ts3 168 rfl⟩
theorem lw_p25 : lw_okq (⟨"CarryNets$Blocks", "wayAllowed", "(II)I"⟩, 3) := ⟨lw_ne2, ts1 172 rfl, ts3 172 rfl, ts3 173 rfl⟩
theorem lw_p26 : lw_okq (⟨"CarryNets$Blocks", "leastSkipFigures", "(II)J"⟩, 3) := ⟨lw_ne2, ts1 172 rfl, ts3 177 rfl, ts3 178 rfl⟩
theorem lw_p27 : lw_okq (⟨"CarryNets$Blocks", "leastSkipSize", "(III)I"⟩, 3) := ⟨lw_ne2, ts1 172 rfl, ts3 181 rfl, ts3 182 rfl⟩
theorem lw_p28 : lw_okq (⟨"CarryNets", "pairsRunningAtMost", "(II)J"⟩, 12) := ⟨lw_ne0, ts1 16 rfl, ts3 207 rfl, ts3 208 rfl⟩
theorem lw_p29 : lw_okq (⟨"CarryNets", "pairsInAll", "()J"⟩, 12) := ⟨lw_ne0, ts1 16 rfl, ts3 212 rfl, ts3 213 rfl⟩
theorem lw_p30 : lw_okq (⟨"CarryNets$Columns", "bringDownAtOnce", "()V"⟩, 4) := ⟨lw_ne4, ts1 188 rfl, ts4 25 rfl, ts4 26 rfl⟩
theorem lw_p31 : lw_okq (⟨"CarryNets$Columns", "bringDownLate", "()V"⟩, 4) := ⟨lw_ne4, ts1 188 rfl, ts4 29 rfl, ts4 30 rfl⟩
theorem lw_p32 : lw_okq (⟨"CarryNets$Columns", "goal", "()I"⟩, 4) := ⟨lw_ne4, ts1 188 rfl, ts4 33 rfl, ts4 34 rfl⟩
theorem lw_p33 : lw_okq (⟨"CarryNets", "sheetNumbered", "(I)LCarryNets$Sheet;"⟩, 12) := ⟨lw_ne0, ts1 16 rfl, ts4 80 rfl, ts4 81 rfl⟩
theorem lw_p34 : lw_okq (⟨"CarryNets", "cellsOfFirstSheet", "()I"⟩, 12) := ⟨lw_ne0, ts1 16 rfl, ts4 125 rfl, ts4 126 rfl⟩
theorem lw_p35 : lw_okq (⟨"CarryNetsModel", "begins", "()V"⟩, 38) := ⟨lw_ne7, ts4 129 rfl, ts5 27 rfl, ts5 28 rfl⟩
theorem lw_p36 : lw_okq (⟨"CarryNetsModel", "next", "()V"⟩, 38) := ⟨lw_ne7, ts4 129 rfl, ts5 31 rfl, ts5 32 rfl⟩
theorem lw_p37 : lw_okq (⟨"CarryNetsModel", "look", "(I)I"⟩, 38) := ⟨lw_ne7, ts4 129 rfl, ts5 35 rfl, ts5 36 rfl⟩
theorem lw_p38 : lw_okq (⟨"CarryNetsModel", "wants", "(ZI)V"⟩, 38) := ⟨lw_ne7, ts4 129 rfl, ts5 41 rfl, ts5 42 rfl⟩
theorem lw_p39 : lw_okq (⟨"CarryNetsModel", "isSign", "(I)Z"⟩, 38) := ⟨lw_ne7, ts4 129 rfl, ts5 47 rfl, ts5 48 rfl⟩
theorem lw_p40 : lw_okq (⟨"CarryNetsModel", "readRow", "(II)J"⟩, 38) := ⟨lw_ne7, ts4 129 rfl, ts5 51 rfl, ts5 52 rfl⟩
theorem lw_p41 : lw_okq (⟨"CarryNetsModel", "joins", "(J)V"⟩, 38) := ⟨lw_ne7, ts4 129 rfl, ts5 55 rfl, ts5 56 rfl⟩
theorem lw_p42 : lw_okq (⟨"CarryNetsModel", "comes", "(J)V"⟩, 38) := ⟨lw_ne7, ts4 129 rfl, ts5 68 rfl, ts5 69 rfl⟩
theorem lw_p43 : lw_okq (⟨"CarryNetsModel", "upAndDown", "(I)V"⟩, 38) := ⟨lw_ne7, ts4 129 rfl, ts5 72 rfl, ts5 73 rfl⟩
theorem lw_p44 : lw_okq (⟨"CarryNetsModel", "placesFrom", "(III)J"⟩, 38) := ⟨lw_ne7, ts4 129 rfl, ts5 76 rfl, ts5 77 rfl⟩
theorem lw_p45 : lw_okq (⟨"CarryNetsModel", "isNet", "(I)Z"⟩, 38) := ⟨lw_ne7, ts4 129 rfl, ts5 88 rfl, ts5 89 rfl⟩
theorem lw_p46 : lw_okq (⟨"CarryNetsModel", "cellsOf", "(II)J"⟩, 38) := ⟨lw_ne7, ts4 129 rfl, ts5 93 rfl, ts5 94 rfl⟩
theorem lw_p47 : lw_okq (⟨"CarryNetsModel", "goesTo", "(II)V"⟩, 38) := ⟨lw_ne7, ts4 129 rfl, ts5 101 rfl, ts5 102 rfl⟩
theorem lw_p48 : lw_okq (⟨"CarryNetsModel", "findTakes", "(II)V"⟩, 38) := ⟨lw_ne7, ts4 129 rfl, ts5 105 rfl, ts5 106 rfl⟩
theorem lw_p49 : lw_okq (⟨"CarryNetsModel", "loadOf", "(I)I"⟩, 38) := ⟨lw_ne7, ts4 129 rfl, ts5 109 rfl, ts5 110 rfl⟩
theorem lw_p50 : lw_okq (⟨"CarryNetsModel", "tracks", "()I"⟩, 38) := ⟨lw_ne7, ts4 129 rfl, ts5 113 rfl, ts5 114 rfl⟩
theorem lw_p51 : lw_okq (⟨"CarryNetsModel", "isWhole", "(I)Z"⟩, 38) := ⟨lw_ne7, ts4 129 rfl, ts5 117 rfl, ts5 118 rfl⟩
theorem lw_p52 : lw_okq (⟨"CarryNetsModel", "fills", "(II)V"⟩, 38) := ⟨lw_ne7, ts4 129 rfl, ts5 155 rfl, ts5 156 rfl⟩
theorem lw_p53 : lw_okq (⟨"CarryNetsModel", "fillsRow", "(III)V"⟩, 38) := ⟨lw_ne7, ts4 129 rfl, ts5 159 rfl, ts5 160 rfl⟩
theorem lw_p54 : lw_okq (⟨"CarryNetsModel", "spansOf", "(II)V"⟩, 38) := ⟨lw_ne7, ts4 129 rfl, ts5 163 rfl, ts5 164 rfl⟩
theorem lw_p55 : lw_okq (⟨"CarryNetsModel", "behind", "(III)I"⟩, 38) := ⟨lw_ne7, ts4 129 rfl, ts5 167 rfl, ts5 168 rfl⟩
theorem lw_p56 : lw_okq (⟨"CarryNetsModel", "firstState", "(I)I"⟩, 38) := ⟨lw_ne7, ts4 129 rfl, ts5 174 rfl, ts5 175 rfl⟩
theorem lw_p57 : lw_okq (⟨"CarryNetsModel", "fillsBelow", "(IIII)V"⟩, 38) := ⟨lw_ne7, ts4 129 rfl, ts5 195 rfl, ts5 196 rfl⟩
theorem lw_p58 : lw_okq (⟨"CarryNetsModel", "runsOf", "(II)J"⟩, 38) := ⟨lw_ne7, ts4 129 rfl, ts5 213 rfl, ts5 214 rfl⟩
theorem lw_p59 : lw_okq (⟨"CarryNetsModel", "copies", "()V"⟩, 38) := ⟨lw_ne7, ts4 129 rfl, ts5 238 rfl, ts5 239 rfl⟩
theorem lw_p60 : lw_okq (⟨"CarryNetsModel", "rowDown", "(I)V"⟩, 38) := ⟨lw_ne7, ts4 129 rfl, ts6 2 rfl, ts6 3 rfl⟩
theorem lw_p61 : lw_okq (⟨"CarryNetsModel", "allBits", "()I"⟩, 38) := ⟨lw_ne7, ts4 129 rfl, ts6 15 rfl, ts6 16 rfl⟩
def lw_privs_1 : List (MethodName × Nat) := [(⟨"CarryNets", "freeNet", "()LCarryNets$Net;"⟩, 12), (⟨"CarryNets$Tape", "readToken", "()V"⟩, 7), (⟨"CarryNets$Tape", "byteAt", "(I)I"⟩, 7), (⟨"CarryNets$Tape", "readNumber", "()V"⟩, 7), (⟨"CarryNets$Tape", "refuseToken", "()Z"⟩, 7), (⟨"CarryNets$Tape", "refuse", "(I)Z"⟩, 7), (⟨"CarryNets$Tape", "readRow", "(LCarryNets$Net;I)Z"⟩, 7), (⟨"CarryNets", "keepNet", "()I"⟩, 12), (⟨"CarryNets", "netNumbered", "(I)LCarryNets$Net;"⟩, 12), (⟨"CarryNets$Judge", "lookAtCells", "(I)V"⟩, 7), (⟨"CarryNets$Judge", "lookAtTracks", "()V"⟩, 7), (⟨"CarryNets$Clock", "passRow", "(I)V"⟩, 5), (⟨"CarryNets$BestNets", "startState", "()I"⟩, 8), (⟨"CarryNets$BestNets", "waysOn", "(III)I"⟩, 8), (⟨"CarryNets$BestNets", "found", "(I)I"⟩, 8), (⟨"CarryNets$BestNets", "longestChain", "(I)I"⟩, 8)]
theorem lw_r1 : ∀ q ∈ lw_privs_1, lw_okq q := List.forall_mem_cons.mpr ⟨lw_p0, List.forall_mem_cons.mpr ⟨lw_p1, List.forall_mem_cons.mpr ⟨lw_p2, List.forall_mem_cons.mpr ⟨lw_p3, List.forall_mem_cons.mpr ⟨lw_p4, List.forall_mem_cons.mpr ⟨lw_p5, List.forall_mem_cons.mpr ⟨lw_p6, List.forall_mem_cons.mpr ⟨lw_p7, List.forall_mem_cons.mpr ⟨lw_p8, List.forall_mem_cons.mpr ⟨lw_p9, List.forall_mem_cons.mpr ⟨lw_p10, List.forall_mem_cons.mpr ⟨lw_p11, List.forall_mem_cons.mpr ⟨lw_p12, List.forall_mem_cons.mpr ⟨lw_p13, List.forall_mem_cons.mpr ⟨lw_p14, List.forall_mem_cons.mpr ⟨lw_p15, fun _ h => absurd h List.not_mem_nil⟩⟩⟩⟩⟩⟩⟩⟩⟩⟩⟩⟩⟩⟩⟩⟩
def lw_privs_2 : List (MethodName × Nat) := [(⟨"CarryNets$BestNets", "waysByRows", "(III)I"⟩, 8), (⟨"CarryNets$BestNets", "openPlaces", "(I)I"⟩, 8), (⟨"CarryNets$BestNets", "unreadyPlaces", "(I)I"⟩, 8), (⟨"CarryNets$BestNets", "loadsFit", "(II)Z"⟩, 8), (⟨"CarryNets$BestNets", "joined", "(II)I"⟩, 8), (⟨"CarryNets$Blocks", "fewestSkipBlocks", "(II)I"⟩, 3), (⟨"CarryNets$Blocks", "allowNoBlocks", "(I)V"⟩, 3), (⟨"CarryNets$Blocks", "allowBlocks", "(II)V"⟩, 3), (⟨"CarryNets$Blocks", "greatestSize", "(I)I"⟩, 3), (⟨"CarryNets$Blocks", "wayAllowed", "(II)I"⟩, 3), (⟨"CarryNets$Blocks", "leastSkipFigures", "(II)J"⟩, 3), (⟨"CarryNets$Blocks", "leastSkipSize", "(III)I"⟩, 3), (⟨"CarryNets", "pairsRunningAtMost", "(II)J"⟩, 12), (⟨"CarryNets", "pairsInAll", "()J"⟩, 12), (⟨"CarryNets$Columns", "bringDownAtOnce", "()V"⟩, 4), (⟨"CarryNets$Columns", "bringDownLate", "()V"⟩, 4)]
theorem lw_r2 : ∀ q ∈ lw_privs_2, lw_okq q := List.forall_mem_cons.mpr ⟨lw_p16, List.forall_mem_cons.mpr ⟨lw_p17, List.forall_mem_cons.mpr ⟨lw_p18, List.forall_mem_cons.mpr ⟨lw_p19, List.forall_mem_cons.mpr ⟨lw_p20, List.forall_mem_cons.mpr ⟨lw_p21, List.forall_mem_cons.mpr ⟨lw_p22, List.forall_mem_cons.mpr ⟨lw_p23, List.forall_mem_cons.mpr ⟨lw_p24, List.forall_mem_cons.mpr ⟨lw_p25, List.forall_mem_cons.mpr ⟨lw_p26, List.forall_mem_cons.mpr ⟨lw_p27, List.forall_mem_cons.mpr ⟨lw_p28, List.forall_mem_cons.mpr ⟨lw_p29, List.forall_mem_cons.mpr ⟨lw_p30, List.forall_mem_cons.mpr ⟨lw_p31, fun _ h => absurd h List.not_mem_nil⟩⟩⟩⟩⟩⟩⟩⟩⟩⟩⟩⟩⟩⟩⟩⟩
def lw_privs_3 : List (MethodName × Nat) := [(⟨"CarryNets$Columns", "goal", "()I"⟩, 4), (⟨"CarryNets", "sheetNumbered", "(I)LCarryNets$Sheet;"⟩, 12), (⟨"CarryNets", "cellsOfFirstSheet", "()I"⟩, 12), (⟨"CarryNetsModel", "begins", "()V"⟩, 38), (⟨"CarryNetsModel", "next", "()V"⟩, 38), (⟨"CarryNetsModel", "look", "(I)I"⟩, 38), (⟨"CarryNetsModel", "wants", "(ZI)V"⟩, 38), (⟨"CarryNetsModel", "isSign", "(I)Z"⟩, 38), (⟨"CarryNetsModel", "readRow", "(II)J"⟩, 38), (⟨"CarryNetsModel", "joins", "(J)V"⟩, 38), (⟨"CarryNetsModel", "comes", "(J)V"⟩, 38), (⟨"CarryNetsModel", "upAndDown", "(I)V"⟩, 38), (⟨"CarryNetsModel", "placesFrom", "(III)J"⟩, 38), (⟨"CarryNetsModel", "isNet", "(I)Z"⟩, 38), (⟨"CarryNetsModel", "cellsOf", "(II)J"⟩, 38), (⟨"CarryNetsModel", "goesTo", "(II)V"⟩, 38)]
theorem lw_r3 : ∀ q ∈ lw_privs_3, lw_okq q := List.forall_mem_cons.mpr ⟨lw_p32, List.forall_mem_cons.mpr ⟨lw_p33, List.forall_mem_cons.mpr ⟨lw_p34, List.forall_mem_cons.mpr ⟨lw_p35, List.forall_mem_cons.mpr ⟨lw_p36, List.forall_mem_cons.mpr ⟨lw_p37, List.forall_mem_cons.mpr ⟨lw_p38, List.forall_mem_cons.mpr ⟨lw_p39, List.forall_mem_cons.mpr ⟨lw_p40, List.forall_mem_cons.mpr ⟨lw_p41, List.forall_mem_cons.mpr ⟨lw_p42, List.forall_mem_cons.mpr ⟨lw_p43, List.forall_mem_cons.mpr ⟨lw_p44, List.forall_mem_cons.mpr ⟨lw_p45, List.forall_mem_cons.mpr ⟨lw_p46, List.forall_mem_cons.mpr ⟨lw_p47, fun _ h => absurd h List.not_mem_nil⟩⟩⟩⟩⟩⟩⟩⟩⟩⟩⟩⟩⟩⟩⟩⟩
def lw_privs_4 : List (MethodName × Nat) := [(⟨"CarryNetsModel", "findTakes", "(II)V"⟩, 38), (⟨"CarryNetsModel", "loadOf", "(I)I"⟩, 38), (⟨"CarryNetsModel", "tracks", "()I"⟩, 38), (⟨"CarryNetsModel", "isWhole", "(I)Z"⟩, 38), (⟨"CarryNetsModel", "fills", "(II)V"⟩, 38), (⟨"CarryNetsModel", "fillsRow", "(III)V"⟩, 38), (⟨"CarryNetsModel", "spansOf", "(II)V"⟩, 38), (⟨"CarryNetsModel", "behind", "(III)I"⟩, 38), (⟨"CarryNetsModel", "firstState", "(I)I"⟩, 38), (⟨"CarryNetsModel", "fillsBelow", "(IIII)V"⟩, 38), (⟨"CarryNetsModel", "runsOf", "(II)J"⟩, 38), (⟨"CarryNetsModel", "copies", "()V"⟩, 38), (⟨"CarryNetsModel", "rowDown", "(I)V"⟩, 38), (⟨"CarryNetsModel", "allBits", "()I"⟩, 38)]
theorem lw_r4 : ∀ q ∈ lw_privs_4, lw_okq q := List.forall_mem_cons.mpr ⟨lw_p48, List.forall_mem_cons.mpr ⟨lw_p49, List.forall_mem_cons.mpr ⟨lw_p50, List.forall_mem_cons.mpr ⟨lw_p51, List.forall_mem_cons.mpr ⟨lw_p52, List.forall_mem_cons.mpr ⟨lw_p53, List.forall_mem_cons.mpr ⟨lw_p54, List.forall_mem_cons.mpr ⟨lw_p55, List.forall_mem_cons.mpr ⟨lw_p56, List.forall_mem_cons.mpr ⟨lw_p57, List.forall_mem_cons.mpr ⟨lw_p58, List.forall_mem_cons.mpr ⟨lw_p59, List.forall_mem_cons.mpr ⟨lw_p60, List.forall_mem_cons.mpr ⟨lw_p61, fun _ h => absurd h List.not_mem_nil⟩⟩⟩⟩⟩⟩⟩⟩⟩⟩⟩⟩⟩⟩
def lw_privs : List (MethodName × Nat) := lw_privs_1 ++ (lw_privs_2 ++ (lw_privs_3 ++ (lw_privs_4)))
def lw_tbl : List Cond := k2_sels lw_privs ++ tables_1
theorem lw_privs_ok : ∀ q ∈ lw_privs, lw_okq q := by
  show ∀ q ∈ lw_privs_1 ++ (lw_privs_2 ++ (lw_privs_3 ++ (lw_privs_4))), lw_okq q
  exact List.forall_mem_append.mpr ⟨lw_r1, List.forall_mem_append.mpr ⟨lw_r2, List.forall_mem_append.mpr ⟨lw_r3, lw_r4⟩⟩⟩
def RX0 : String := "CarryNets$BestNets"
def TX0 : u_T := fun k => match k with
  | 0 => ("CarryNets$BestNets", "fewestCells", "I", false)
  | 1 => ("CarryNets$BestNets", "howMany", "I", false)
  | 2 => ("CarryNets$BestNets", "places", "I", false)
  | 3 => ("CarryNets$BestNets", "rows", "I", false)
  | 4 => ("CarryNets$BestNets", "mostLoad", "I", false)
  | 5 => ("CarryNets$BestNets", "rowsNow", "[I", true)
  | 6 => ("CarryNets$BestNets", "leastRows", "[I", true)
  | _ => ("CarryNets$BestNets", "leastFound", "Z", false)
def tyX0 : Nat → FieldType := fun k => match k with
  | 0 => .int
  | 1 => .int
  | 2 => .int
  | 3 => .int
  | 4 => .int
  | 5 => .array .int
  | 6 => .array .int
  | _ => .boolean
theorem nmX0 : ∀ a, a < 8 → ∀ b, b < 8 → a ≠ b → (TX0 a).2.1 ≠ (TX0 b).2.1 := by decide +kernel
theorem tyX0_ok : ∀ k, k < 8 → parseFieldDescriptor (TX0 k).2.2.1 = some (tyX0 k) := by decide +kernel
abbrev cX0_init : ByteArray := prog_2_method_1_code
def yX0_init : MethodName := ⟨RX0, "<init>", "()V"⟩
abbrev cX0_search : ByteArray := prog_2_method_2_code
def yX0_search : MethodName := ⟨RX0, "search", "(III)Z"⟩
abbrev cX0_fillLeast : ByteArray := prog_2_method_3_code
def yX0_fillLeast : MethodName := ⟨RX0, "fillLeast", "(LCarryNets$Net;)V"⟩
abbrev cX0_waysOn : ByteArray := prog_2_method_4_code
def yX0_waysOn : MethodName := ⟨RX0, "waysOn", "(III)I"⟩
abbrev cX0_waysByRows : ByteArray := prog_2_method_5_code
def yX0_waysByRows : MethodName := ⟨RX0, "waysByRows", "(III)I"⟩
abbrev cX0_found : ByteArray := prog_2_method_6_code
def yX0_found : MethodName := ⟨RX0, "found", "(I)I"⟩
abbrev cX0_startState : ByteArray := prog_2_method_7_code
def yX0_startState : MethodName := ⟨RX0, "startState", "()I"⟩
abbrev cX0_openPlaces : ByteArray := prog_2_method_8_code
def yX0_openPlaces : MethodName := ⟨RX0, "openPlaces", "(I)I"⟩
abbrev cX0_unreadyPlaces : ByteArray := prog_2_method_9_code
def yX0_unreadyPlaces : MethodName := ⟨RX0, "unreadyPlaces", "(I)I"⟩
abbrev cX0_loadsFit : ByteArray := prog_2_method_10_code
def yX0_loadsFit : MethodName := ⟨RX0, "loadsFit", "(II)Z"⟩
abbrev cX0_joined : ByteArray := prog_2_method_11_code
def yX0_joined : MethodName := ⟨RX0, "joined", "(II)I"⟩
abbrev cX0_longestChain : ByteArray := prog_2_method_12_code
def yX0_longestChain : MethodName := ⟨RX0, "longestChain", "(I)I"⟩
abbrev cX0_part : ByteArray := prog_2_method_13_code
def yX0_part : MethodName := ⟨RX0, "part", "(II)I"⟩
def RX1 : String := "CarryNets$Blocks"
def TX1 : u_T := fun k => match k with
  | 0 => ("CarryNets$Blocks", "greatestWay", "[I", true)
  | 1 => ("CarryNets$Blocks", "skip", "I", false)
  | _ => ("CarryNets$Blocks", "goal", "I", false)
def tyX1 : Nat → FieldType := fun k => match k with
  | 0 => .array .int
  | 1 => .int
  | _ => .int
theorem nmX1 : ∀ a, a < 3 → ∀ b, b < 3 → a ≠ b → (TX1 a).2.1 ≠ (TX1 b).2.1 := by decide +kernel
theorem tyX1_ok : ∀ k, k < 3 → parseFieldDescriptor (TX1 k).2.2.1 = some (tyX1 k) := by decide +kernel
abbrev cX1_init : ByteArray := prog_3_method_1_code
def yX1_init : MethodName := ⟨RX1, "<init>", "()V"⟩
abbrev cX1_areTold : ByteArray := prog_3_method_2_code
def yX1_areTold : MethodName := ⟨RX1, "areTold", "(J)Z"⟩
abbrev cX1_worst : ByteArray := prog_3_method_3_code
def yX1_worst : MethodName := ⟨RX1, "worst", "(JII)I"⟩
abbrev cX1_skipWorst : ByteArray := prog_3_method_4_code
def yX1_skipWorst : MethodName := ⟨RX1, "skipWorst", "(JI)I"⟩
abbrev cX1_choiceWorst : ByteArray := prog_3_method_5_code
def yX1_choiceWorst : MethodName := ⟨RX1, "choiceWorst", "(J)I"⟩
abbrev cX1_size : ByteArray := prog_3_method_6_code
def yX1_size : MethodName := ⟨RX1, "size", "(JI)I"⟩
abbrev cX1_skipFigures : ByteArray := prog_3_method_7_code
def yX1_skipFigures : MethodName := ⟨RX1, "skipFigures", "(II)J"⟩
abbrev cX1_fewestSkipBlocks : ByteArray := prog_3_method_8_code
def yX1_fewestSkipBlocks : MethodName := ⟨RX1, "fewestSkipBlocks", "(II)I"⟩
abbrev cX1_allowNoBlocks : ByteArray := prog_3_method_9_code
def yX1_allowNoBlocks : MethodName := ⟨RX1, "allowNoBlocks", "(I)V"⟩
abbrev cX1_allowBlocks : ByteArray := prog_3_method_10_code
def yX1_allowBlocks : MethodName := ⟨RX1, "allowBlocks", "(II)V"⟩
abbrev cX1_leastSkipFigures : ByteArray := prog_3_method_11_code
def yX1_leastSkipFigures : MethodName := ⟨RX1, "leastSkipFigures", "(II)J"⟩
abbrev cX1_leastSkipSize : ByteArray := prog_3_method_12_code
def yX1_leastSkipSize : MethodName := ⟨RX1, "leastSkipSize", "(III)I"⟩
abbrev cX1_greatestSize : ByteArray := prog_3_method_13_code
def yX1_greatestSize : MethodName := ⟨RX1, "greatestSize", "(I)I"⟩
abbrev cX1_wayAllowed : ByteArray := prog_3_method_14_code
def yX1_wayAllowed : MethodName := ⟨RX1, "wayAllowed", "(II)I"⟩
abbrev cX1_choiceFigures : ByteArray := prog_3_method_15_code
def yX1_choiceFigures : MethodName := ⟨RX1, "choiceFigures", "(I)J"⟩
abbrev cX1_leastChoiceFigures : ByteArray := prog_3_method_16_code
def yX1_leastChoiceFigures : MethodName := ⟨RX1, "leastChoiceFigures", "(III)J"⟩
abbrev cX1_choicePlaces : ByteArray := prog_3_method_17_code
def yX1_choicePlaces : MethodName := ⟨RX1, "choicePlaces", "(III)I"⟩
def RX2 : String := "CarryNets$Clock"
def TX2 : u_T := fun k => match k with
  | 0 => ("CarryNets$Clock", "perCell", "I", false)
  | 1 => ("CarryNets$Clock", "perFurther", "I", false)
  | 2 => ("CarryNets$Clock", "starts", "[I", true)
  | 3 => ("CarryNets$Clock", "ready", "[I", true)
  | _ => ("CarryNets$Clock", "spans", "LCarryNets$Spans;", true)
def tyX2 : Nat → FieldType := fun k => match k with
  | 0 => .int
  | 1 => .int
  | 2 => .array .int
  | 3 => .array .int
  | _ => .object "CarryNets$Spans"
theorem nmX2 : ∀ a, a < 5 → ∀ b, b < 5 → a ≠ b → (TX2 a).2.1 ≠ (TX2 b).2.1 := by decide +kernel
theorem tyX2_ok : ∀ k, k < 5 → parseFieldDescriptor (TX2 k).2.2.1 = some (tyX2 k) := by decide +kernel
abbrev cX2_init : ByteArray := prog_4_method_1_code
def yX2_init : MethodName := ⟨RX2, "<init>", "()V"⟩
abbrev cX2_follow : ByteArray := prog_4_method_2_code
def yX2_follow : MethodName := ⟨RX2, "follow", "(LCarryNets$Net;)V"⟩
abbrev cX2_readyAt : ByteArray := prog_4_method_3_code
def yX2_readyAt : MethodName := ⟨RX2, "readyAt", "(I)I"⟩
abbrev cX2_latest : ByteArray := prog_4_method_4_code
def yX2_latest : MethodName := ⟨RX2, "latest", "(I)I"⟩
abbrev cX2_passRow : ByteArray := prog_4_method_5_code
def yX2_passRow : MethodName := ⟨RX2, "passRow", "(I)V"⟩
def RX3 : String := "CarryNets$Columns"
def TX3 : u_T := fun k => match k with
  | 0 => ("CarryNets$Columns", "threes", "I", false)
  | 1 => ("CarryNets$Columns", "twos", "I", false)
  | 2 => ("CarryNets$Columns", "lost", "I", false)
  | _ => ("CarryNets$Columns", "heights", "[I", true)
def tyX3 : Nat → FieldType := fun k => match k with
  | 0 => .int
  | 1 => .int
  | 2 => .int
  | _ => .array .int
theorem nmX3 : ∀ a, a < 4 → ∀ b, b < 4 → a ≠ b → (TX3 a).2.1 ≠ (TX3 b).2.1 := by decide +kernel
theorem tyX3_ok : ∀ k, k < 4 → parseFieldDescriptor (TX3 k).2.2.1 = some (tyX3 k) := by decide +kernel
abbrev cX3_init : ByteArray := prog_5_method_1_code
def yX3_init : MethodName := ⟨RX3, "<init>", "()V"⟩
abbrev cX3_heightOf : ByteArray := prog_5_method_2_code
def yX3_heightOf : MethodName := ⟨RX3, "heightOf", "(I)I"⟩
abbrev cX3_setHeight : ByteArray := prog_5_method_3_code
def yX3_setHeight : MethodName := ⟨RX3, "setHeight", "(II)V"⟩
abbrev cX3_clear : ByteArray := prog_5_method_4_code
def yX3_clear : MethodName := ⟨RX3, "clear", "()V"⟩
abbrev cX3_copy : ByteArray := prog_5_method_5_code
def yX3_copy : MethodName := ⟨RX3, "copy", "(LCarryNets$Columns;)V"⟩
abbrev cX3_clearTallies : ByteArray := prog_5_method_6_code
def yX3_clearTallies : MethodName := ⟨RX3, "clearTallies", "()V"⟩
abbrev cX3_greatest : ByteArray := prog_5_method_7_code
def yX3_greatest : MethodName := ⟨RX3, "greatest", "()I"⟩
abbrev cX3_allBits : ByteArray := prog_5_method_8_code
def yX3_allBits : MethodName := ⟨RX3, "allBits", "()I"⟩
abbrev cX3_filled : ByteArray := prog_5_method_9_code
def yX3_filled : MethodName := ⟨RX3, "filled", "()I"⟩
abbrev cX3_done : ByteArray := prog_5_method_10_code
def yX3_done : MethodName := ⟨RX3, "done", "()Z"⟩
abbrev cX3_bringDown : ByteArray := prog_5_method_11_code
def yX3_bringDown : MethodName := ⟨RX3, "bringDown", "(I)V"⟩
abbrev cX3_bringDownAtOnce : ByteArray := prog_5_method_12_code
def yX3_bringDownAtOnce : MethodName := ⟨RX3, "bringDownAtOnce", "()V"⟩
abbrev cX3_bringDownLate : ByteArray := prog_5_method_13_code
def yX3_bringDownLate : MethodName := ⟨RX3, "bringDownLate", "()V"⟩
abbrev cX3_goal : ByteArray := prog_5_method_14_code
def yX3_goal : MethodName := ⟨RX3, "goal", "()I"⟩
def RX4 : String := "CarryNets$Judge"
def TX4 : u_T := fun k => match k with
  | 0 => ("CarryNets$Judge", "cells", "I", false)
  | 1 => ("CarryNets$Judge", "greatestLoad", "I", false)
  | 2 => ("CarryNets$Judge", "allWays", "I", false)
  | 3 => ("CarryNets$Judge", "mostTracks", "I", false)
  | 4 => ("CarryNets$Judge", "longestWay", "I", false)
  | 5 => ("CarryNets$Judge", "spans", "LCarryNets$Spans;", true)
  | _ => ("CarryNets$Judge", "beginLessEnd", "[I", true)
def tyX4 : Nat → FieldType := fun k => match k with
  | 0 => .int
  | 1 => .int
  | 2 => .int
  | 3 => .int
  | 4 => .int
  | 5 => .object "CarryNets$Spans"
  | _ => .array .int
theorem nmX4 : ∀ a, a < 7 → ∀ b, b < 7 → a ≠ b → (TX4 a).2.1 ≠ (TX4 b).2.1 := by decide +kernel
theorem tyX4_ok : ∀ k, k < 7 → parseFieldDescriptor (TX4 k).2.2.1 = some (tyX4 k) := by decide +kernel
abbrev cX4_init : ByteArray := prog_6_method_1_code
def yX4_init : MethodName := ⟨RX4, "<init>", "()V"⟩
abbrev cX4_look : ByteArray := prog_6_method_2_code
def yX4_look : MethodName := ⟨RX4, "look", "(LCarryNets$Net;)V"⟩
abbrev cX4_lookAtCells : ByteArray := prog_6_method_3_code
def yX4_lookAtCells : MethodName := ⟨RX4, "lookAtCells", "(I)V"⟩
abbrev cX4_lookAtTracks : ByteArray := prog_6_method_4_code
def yX4_lookAtTracks : MethodName := ⟨RX4, "lookAtTracks", "()V"⟩
def RX5 : String := "CarryNets$Laws"
def TX5 : u_T := fun k => match k with
  | _ => ("", "", "", false)
def tyX5 : Nat → FieldType := fun k => match k with
  | _ => .int
theorem nmX5 : ∀ a, a < 0 → ∀ b, b < 0 → a ≠ b → (TX5 a).2.1 ≠ (TX5 b).2.1 := by decide +kernel
theorem tyX5_ok : ∀ k, k < 0 → parseFieldDescriptor (TX5 k).2.2.1 = some (tyX5 k) := by decide +kernel
abbrev cX5_fill : ByteArray := prog_7_method_2_code
def yX5_fill : MethodName := ⟨RX5, "fill", "(LCarryNets$Net;II)V"⟩
abbrev cX5_oneByOne : ByteArray := prog_7_method_3_code
def yX5_oneByOne : MethodName := ⟨RX5, "oneByOne", "(LCarryNets$Net;)V"⟩
abbrev cX5_doubling : ByteArray := prog_7_method_4_code
def yX5_doubling : MethodName := ⟨RX5, "doubling", "(LCarryNets$Net;I)V"⟩
abbrev cX5_upAndDown : ByteArray := prog_7_method_5_code
def yX5_upAndDown : MethodName := ⟨RX5, "upAndDown", "(LCarryNets$Net;)V"⟩
abbrev cX5_addRow : ByteArray := prog_7_method_6_code
def yX5_addRow : MethodName := ⟨RX5, "addRow", "(LCarryNets$Net;II)V"⟩
abbrev cX5_hasCell : ByteArray := prog_7_method_7_code
def yX5_hasCell : MethodName := ⟨RX5, "hasCell", "(III)Z"⟩
def RX6 : String := "CarryNets$Net"
def TX6 : u_T := fun k => match k with
  | 0 => ("CarryNets$Net", "places", "I", false)
  | 1 => ("CarryNets$Net", "depth", "I", false)
  | 2 => ("CarryNets$Net", "last", "LCarryNets$Spans;", true)
  | _ => ("CarryNets$Net", "rows", "[I", true)
def tyX6 : Nat → FieldType := fun k => match k with
  | 0 => .int
  | 1 => .int
  | 2 => .object "CarryNets$Spans"
  | _ => .array .int
theorem nmX6 : ∀ a, a < 4 → ∀ b, b < 4 → a ≠ b → (TX6 a).2.1 ≠ (TX6 b).2.1 := by decide +kernel
theorem tyX6_ok : ∀ k, k < 4 → parseFieldDescriptor (TX6 k).2.2.1 = some (tyX6 k) := by decide +kernel
abbrev cX6_init : ByteArray := prog_8_method_1_code
def yX6_init : MethodName := ⟨RX6, "<init>", "()V"⟩
abbrev cX6_begin : ByteArray := prog_8_method_2_code
def yX6_begin : MethodName := ⟨RX6, "begin", "(I)V"⟩
abbrev cX6_addRow : ByteArray := prog_8_method_3_code
def yX6_addRow : MethodName := ⟨RX6, "addRow", "(I)V"⟩
abbrev cX6_row : ByteArray := prog_8_method_4_code
def yX6_row : MethodName := ⟨RX6, "row", "(I)I"⟩
def RX7 : String := "CarryNets$Sheet"
def TX7 : u_T := fun k => match k with
  | 0 => ("CarryNets$Sheet", "size", "I", false)
  | 1 => ("CarryNets$Sheet", "lane", "I", false)
  | _ => ("CarryNets$Sheet", "cells", "[I", true)
def tyX7 : Nat → FieldType := fun k => match k with
  | 0 => .int
  | 1 => .int
  | _ => .array .int
theorem nmX7 : ∀ a, a < 3 → ∀ b, b < 3 → a ≠ b → (TX7 a).2.1 ≠ (TX7 b).2.1 := by decide +kernel
theorem tyX7_ok : ∀ k, k < 3 → parseFieldDescriptor (TX7 k).2.2.1 = some (tyX7 k) := by decide +kernel
abbrev cX7_init : ByteArray := prog_9_method_1_code
def yX7_init : MethodName := ⟨RX7, "<init>", "()V"⟩
abbrev cX7_renew : ByteArray := prog_9_method_2_code
def yX7_renew : MethodName := ⟨RX7, "renew", "(II)V"⟩
abbrev cX7_isNothing : ByteArray := prog_9_method_3_code
def yX7_isNothing : MethodName := ⟨RX7, "isNothing", "()Z"⟩
abbrev cX7_hasCell : ByteArray := prog_9_method_4_code
def yX7_hasCell : MethodName := ⟨RX7, "hasCell", "(I)Z"⟩
abbrev cX7_read : ByteArray := prog_9_method_5_code
def yX7_read : MethodName := ⟨RX7, "read", "(I)I"⟩
abbrev cX7_write : ByteArray := prog_9_method_6_code
def yX7_write : MethodName := ⟨RX7, "write", "(II)V"⟩
abbrev cX7_refusal : ByteArray := prog_9_method_7_code
def yX7_refusal : MethodName := ⟨RX7, "refusal", "(III)I"⟩
def RX8 : String := "CarryNets$Spans"
def TX8 : u_T := fun k => match k with
  | 0 => ("CarryNets$Spans", "places", "I", false)
  | 1 => ("CarryNets$Spans", "low", "[I", true)
  | 2 => ("CarryNets$Spans", "taken", "[I", true)
  | _ => ("CarryNets$Spans", "load", "[I", true)
def tyX8 : Nat → FieldType := fun k => match k with
  | 0 => .int
  | 1 => .array .int
  | 2 => .array .int
  | _ => .array .int
theorem nmX8 : ∀ a, a < 4 → ∀ b, b < 4 → a ≠ b → (TX8 a).2.1 ≠ (TX8 b).2.1 := by decide +kernel
theorem tyX8_ok : ∀ k, k < 4 → parseFieldDescriptor (TX8 k).2.2.1 = some (tyX8 k) := by decide +kernel
abbrev cX8_init : ByteArray := prog_10_method_1_code
def yX8_init : MethodName := ⟨RX8, "<init>", "()V"⟩
abbrev cX8_begin : ByteArray := prog_10_method_2_code
def yX8_begin : MethodName := ⟨RX8, "begin", "(I)V"⟩
abbrev cX8_join : ByteArray := prog_10_method_3_code
def yX8_join : MethodName := ⟨RX8, "join", "(I)V"⟩
abbrev cX8_openPlaces : ByteArray := prog_10_method_4_code
def yX8_openPlaces : MethodName := ⟨RX8, "openPlaces", "()I"⟩
abbrev cX8_whole : ByteArray := prog_10_method_5_code
def yX8_whole : MethodName := ⟨RX8, "whole", "()Z"⟩
abbrev cX8_lowOf : ByteArray := prog_10_method_6_code
def yX8_lowOf : MethodName := ⟨RX8, "lowOf", "(I)I"⟩
abbrev cX8_loadOf : ByteArray := prog_10_method_7_code
def yX8_loadOf : MethodName := ⟨RX8, "loadOf", "(I)I"⟩
abbrev cX8_takenBy : ByteArray := prog_10_method_8_code
def yX8_takenBy : MethodName := ⟨RX8, "takenBy", "(I)I"⟩
def RX9 : String := "CarryNets$Tape"
def TX9 : u_T := fun k => match k with
  | 0 => ("CarryNets$Tape", "length", "I", false)
  | 1 => ("CarryNets$Tape", "fault", "I", false)
  | 2 => ("CarryNets$Tape", "bytes", "[B", true)
  | 3 => ("CarryNets$Tape", "place", "I", false)
  | 4 => ("CarryNets$Tape", "token", "I", false)
  | 5 => ("CarryNets$Tape", "tokenPlace", "I", false)
  | _ => ("CarryNets$Tape", "value", "I", false)
def tyX9 : Nat → FieldType := fun k => match k with
  | 0 => .int
  | 1 => .int
  | 2 => .array .byte
  | 3 => .int
  | 4 => .int
  | 5 => .int
  | _ => .int
theorem nmX9 : ∀ a, a < 7 → ∀ b, b < 7 → a ≠ b → (TX9 a).2.1 ≠ (TX9 b).2.1 := by decide +kernel
theorem tyX9_ok : ∀ k, k < 7 → parseFieldDescriptor (TX9 k).2.2.1 = some (tyX9 k) := by decide +kernel
abbrev cX9_init : ByteArray := prog_11_method_1_code
def yX9_init : MethodName := ⟨RX9, "<init>", "()V"⟩
abbrev cX9_append : ByteArray := prog_11_method_2_code
def yX9_append : MethodName := ⟨RX9, "append", "(J)Z"⟩
abbrev cX9_tells : ByteArray := prog_11_method_3_code
def yX9_tells : MethodName := ⟨RX9, "tells", "(LCarryNets$Net;)Z"⟩
abbrev cX9_faultPlace : ByteArray := prog_11_method_4_code
def yX9_faultPlace : MethodName := ⟨RX9, "faultPlace", "()I"⟩
abbrev cX9_readRow : ByteArray := prog_11_method_5_code
def yX9_readRow : MethodName := ⟨RX9, "readRow", "(LCarryNets$Net;I)Z"⟩
abbrev cX9_refuse : ByteArray := prog_11_method_6_code
def yX9_refuse : MethodName := ⟨RX9, "refuse", "(I)Z"⟩
abbrev cX9_refuseToken : ByteArray := prog_11_method_7_code
def yX9_refuseToken : MethodName := ⟨RX9, "refuseToken", "()Z"⟩
abbrev cX9_readToken : ByteArray := prog_11_method_8_code
def yX9_readToken : MethodName := ⟨RX9, "readToken", "()V"⟩
abbrev cX9_readNumber : ByteArray := prog_11_method_9_code
def yX9_readNumber : MethodName := ⟨RX9, "readNumber", "()V"⟩
abbrev cX9_byteAt : ByteArray := prog_11_method_10_code
def yX9_byteAt : MethodName := ⟨RX9, "byteAt", "(I)I"⟩
abbrev cX9_isFigure : ByteArray := prog_11_method_11_code
def yX9_isFigure : MethodName := ⟨RX9, "isFigure", "(I)Z"⟩
def RX10 : String := "CarryNets"
def TX10 : u_T := fun k => match k with
  | 0 => ("CarryNets", "netRow", "[LCarryNets$Net;", true)
  | 1 => ("CarryNets", "netsHeld", "I", false)
  | 2 => ("CarryNets", "tape", "LCarryNets$Tape;", true)
  | 3 => ("CarryNets", "spans", "LCarryNets$Spans;", true)
  | 4 => ("CarryNets", "judge", "LCarryNets$Judge;", true)
  | 5 => ("CarryNets", "clock", "LCarryNets$Clock;", true)
  | 6 => ("CarryNets", "bestNets", "LCarryNets$BestNets;", true)
  | 7 => ("CarryNets", "bestBlocks", "LCarryNets$Blocks;", true)
  | 8 => ("CarryNets", "pairs", "[J", true)
  | 9 => ("CarryNets", "columns", "LCarryNets$Columns;", true)
  | 10 => ("CarryNets", "trial", "LCarryNets$Columns;", true)
  | _ => ("CarryNets", "sheetRow", "[LCarryNets$Sheet;", true)
def tyX10 : Nat → FieldType := fun k => match k with
  | 0 => .array (.object "CarryNets$Net")
  | 1 => .int
  | 2 => .object "CarryNets$Tape"
  | 3 => .object "CarryNets$Spans"
  | 4 => .object "CarryNets$Judge"
  | 5 => .object "CarryNets$Clock"
  | 6 => .object "CarryNets$BestNets"
  | 7 => .object "CarryNets$Blocks"
  | 8 => .array .long
  | 9 => .object "CarryNets$Columns"
  | 10 => .object "CarryNets$Columns"
  | _ => .array (.object "CarryNets$Sheet")
theorem nmX10 : ∀ a, a < 12 → ∀ b, b < 12 → a ≠ b → (TX10 a).2.1 ≠ (TX10 b).2.1 := by decide +kernel
theorem tyX10_ok : ∀ k, k < 12 → parseFieldDescriptor (TX10 k).2.2.1 = some (tyX10 k) := by decide +kernel
abbrev cX10_init : ByteArray := prog_1_method_1_code
def yX10_init : MethodName := ⟨RX10, "<init>", "()V"⟩
abbrev cX10_feed : ByteArray := prog_1_method_2_code
def yX10_feed : MethodName := ⟨RX10, "feed", "(J)I"⟩
abbrev cX10_end : ByteArray := prog_1_method_3_code
def yX10_end : MethodName := ⟨RX10, "end", "(I)I"⟩
abbrev cX10_text : ByteArray := prog_1_method_4_code
def yX10_text : MethodName := ⟨RX10, "text", "()I"⟩
abbrev cX10_fault : ByteArray := prog_1_method_5_code
def yX10_fault : MethodName := ⟨RX10, "fault", "()I"⟩
abbrev cX10_net : ByteArray := prog_1_method_6_code
def yX10_net : MethodName := ⟨RX10, "net", "(II)I"⟩
abbrev cX10_drop : ByteArray := prog_1_method_7_code
def yX10_drop : MethodName := ⟨RX10, "drop", "()I"⟩
abbrev cX10_told : ByteArray := prog_1_method_8_code
def yX10_told : MethodName := ⟨RX10, "told", "(II)I"⟩
abbrev cX10_cell : ByteArray := prog_1_method_9_code
def yX10_cell : MethodName := ⟨RX10, "cell", "(IIII)I"⟩
abbrev cX10_pace : ByteArray := prog_1_method_10_code
def yX10_pace : MethodName := ⟨RX10, "pace", "(II)I"⟩
abbrev cX10_start : ByteArray := prog_1_method_11_code
def yX10_start : MethodName := ⟨RX10, "start", "(II)I"⟩
abbrev cX10_time : ByteArray := prog_1_method_12_code
def yX10_time : MethodName := ⟨RX10, "time", "(II)I"⟩
abbrev cX10_sum : ByteArray := prog_1_method_13_code
def yX10_sum : MethodName := ⟨RX10, "sum", "(IIIZI)J"⟩
abbrev cX10_best : ByteArray := prog_1_method_14_code
def yX10_best : MethodName := ⟨RX10, "best", "(IIII)I"⟩
abbrev cX10_made : ByteArray := prog_1_method_15_code
def yX10_made : MethodName := ⟨RX10, "made", "(III)I"⟩
abbrev cX10_blocks : ByteArray := prog_1_method_16_code
def yX10_blocks : MethodName := ⟨RX10, "blocks", "(JII)I"⟩
abbrev cX10_sizes : ByteArray := prog_1_method_17_code
def yX10_sizes : MethodName := ⟨RX10, "sizes", "(IIII)J"⟩
abbrev cX10_run : ByteArray := prog_1_method_18_code
def yX10_run : MethodName := ⟨RX10, "run", "(III)I"⟩
abbrev cX10_runs : ByteArray := prog_1_method_19_code
def yX10_runs : MethodName := ⟨RX10, "runs", "(II)J"⟩
abbrev cX10_mean : ByteArray := prog_1_method_20_code
def yX10_mean : MethodName := ⟨RX10, "mean", "(II)J"⟩
abbrev cX10_height : ByteArray := prog_1_method_21_code
def yX10_height : MethodName := ⟨RX10, "height", "(II)I"⟩
abbrev cX10_product : ByteArray := prog_1_method_22_code
def yX10_product : MethodName := ⟨RX10, "product", "(II)I"⟩
abbrev cX10_down : ByteArray := prog_1_method_23_code
def yX10_down : MethodName := ⟨RX10, "down", "(I)I"⟩
abbrev cX10_downs : ByteArray := prog_1_method_24_code
def yX10_downs : MethodName := ⟨RX10, "downs", "(II)I"⟩
abbrev cX10_heap : ByteArray := prog_1_method_25_code
def yX10_heap : MethodName := ⟨RX10, "heap", "(I)I"⟩
abbrev cX10_digit : ByteArray := prog_1_method_26_code
def yX10_digit : MethodName := ⟨RX10, "digit", "(II)I"⟩
abbrev cX10_times : ByteArray := prog_1_method_27_code
def yX10_times : MethodName := ⟨RX10, "times", "(IIII)J"⟩
abbrev cX10_sheet : ByteArray := prog_1_method_28_code
def yX10_sheet : MethodName := ⟨RX10, "sheet", "(III)I"⟩
abbrev cX10_lay : ByteArray := prog_1_method_29_code
def yX10_lay : MethodName := ⟨RX10, "lay", "(III)I"⟩
abbrev cX10_heights : ByteArray := prog_1_method_30_code
def yX10_heights : MethodName := ⟨RX10, "heights", "(IIII)I"⟩
abbrev cX10_count : ByteArray := prog_1_method_31_code
def yX10_count : MethodName := ⟨RX10, "count", "(I)I"⟩
abbrev cX10_at : ByteArray := prog_1_method_32_code
def yX10_at : MethodName := ⟨RX10, "at", "([II)I"⟩
abbrev cX10_put : ByteArray := prog_1_method_33_code
def yX10_put : MethodName := ⟨RX10, "put", "([III)V"⟩
abbrev cX10_netNumbered : ByteArray := prog_1_method_34_code
def yX10_netNumbered : MethodName := ⟨RX10, "netNumbered", "(I)LCarryNets$Net;"⟩
abbrev cX10_freeNet : ByteArray := prog_1_method_35_code
def yX10_freeNet : MethodName := ⟨RX10, "freeNet", "()LCarryNets$Net;"⟩
abbrev cX10_keepNet : ByteArray := prog_1_method_36_code
def yX10_keepNet : MethodName := ⟨RX10, "keepNet", "()I"⟩
abbrev cX10_bestIsTold : ByteArray := prog_1_method_37_code
def yX10_bestIsTold : MethodName := ⟨RX10, "bestIsTold", "(III)Z"⟩
abbrev cX10_kindIsTold : ByteArray := prog_1_method_38_code
def yX10_kindIsTold : MethodName := ⟨RX10, "kindIsTold", "(II)Z"⟩
abbrev cX10_hasBits : ByteArray := prog_1_method_39_code
def yX10_hasBits : MethodName := ⟨RX10, "hasBits", "(II)Z"⟩
abbrev cX10_plainSum : ByteArray := prog_1_method_40_code
def yX10_plainSum : MethodName := ⟨RX10, "plainSum", "(IIIZ)J"⟩
abbrev cX10_sumBits : ByteArray := prog_1_method_41_code
def yX10_sumBits : MethodName := ⟨RX10, "sumBits", "(IIIZ)J"⟩
abbrev cX10_carryBits : ByteArray := prog_1_method_42_code
def yX10_carryBits : MethodName := ⟨RX10, "carryBits", "(IIIZ)J"⟩
abbrev cX10_bitsBelow : ByteArray := prog_1_method_43_code
def yX10_bitsBelow : MethodName := ⟨RX10, "bitsBelow", "(I)J"⟩
abbrev cX10_pairsRunningAtMost : ByteArray := prog_1_method_44_code
def yX10_pairsRunningAtMost : MethodName := ⟨RX10, "pairsRunningAtMost", "(II)J"⟩
abbrev cX10_pairsInAll : ByteArray := prog_1_method_45_code
def yX10_pairsInAll : MethodName := ⟨RX10, "pairsInAll", "()J"⟩
abbrev cX10_digitByFours : ByteArray := prog_1_method_46_code
def yX10_digitByFours : MethodName := ⟨RX10, "digitByFours", "(II)I"⟩
abbrev cX10_digitsNotZero : ByteArray := prog_1_method_47_code
def yX10_digitsNotZero : MethodName := ⟨RX10, "digitsNotZero", "(I)I"⟩
abbrev cX10_productByDigits : ByteArray := prog_1_method_48_code
def yX10_productByDigits : MethodName := ⟨RX10, "productByDigits", "(II)J"⟩
abbrev cX10_sheetNumbered : ByteArray := prog_1_method_49_code
def yX10_sheetNumbered : MethodName := ⟨RX10, "sheetNumbered", "(I)LCarryNets$Sheet;"⟩
abbrev cX10_cellsOfFirstSheet : ByteArray := prog_1_method_50_code
def yX10_cellsOfFirstSheet : MethodName := ⟨RX10, "cellsOfFirstSheet", "()I"⟩
def RX11 : String := "CarryNetsModel"
def TX11 : u_T := fun k => match k with
  | 0 => ("CarryNetsModel", "nets", "I", false)
  | 1 => ("CarryNetsModel", "wide", "[I", true)
  | 2 => ("CarryNetsModel", "rows", "[I", true)
  | 3 => ("CarryNetsModel", "cellsIn", "[J", true)
  | 4 => ("CarryNetsModel", "pace", "I", false)
  | 5 => ("CarryNetsModel", "further", "I", false)
  | 6 => ("CarryNetsModel", "starts", "[I", true)
  | 7 => ("CarryNetsModel", "low", "[I", true)
  | 8 => ("CarryNetsModel", "then", "[I", true)
  | 9 => ("CarryNetsModel", "tape", "[I", true)
  | 10 => ("CarryNetsModel", "taped", "I", false)
  | 11 => ("CarryNetsModel", "pos", "I", false)
  | 12 => ("CarryNetsModel", "from", "I", false)
  | 13 => ("CarryNetsModel", "sort", "I", false)
  | 14 => ("CarryNetsModel", "value", "I", false)
  | 15 => ("CarryNetsModel", "fault", "I", false)
  | 16 => ("CarryNetsModel", "wrongAt", "I", false)
  | 17 => ("CarryNetsModel", "takes", "[I", true)
  | 18 => ("CarryNetsModel", "times", "[I", true)
  | 19 => ("CarryNetsModel", "after", "[I", true)
  | 20 => ("CarryNetsModel", "bestWide", "I", false)
  | 21 => ("CarryNetsModel", "bestLoad", "I", false)
  | 22 => ("CarryNetsModel", "fewest", "[I", true)
  | 23 => ("CarryNetsModel", "ways", "[I", true)
  | 24 => ("CarryNetsModel", "states", "I", false)
  | 25 => ("CarryNetsModel", "loads", "[I", true)
  | 26 => ("CarryNetsModel", "block", "[I", true)
  | 27 => ("CarryNetsModel", "mostBelow", "[I", true)
  | 28 => ("CarryNetsModel", "counts", "[J", true)
  | 29 => ("CarryNetsModel", "countsThen", "[J", true)
  | 30 => ("CarryNetsModel", "heights", "[I", true)
  | 31 => ("CarryNetsModel", "heap", "[I", true)
  | 32 => ("CarryNetsModel", "threes", "I", false)
  | 33 => ("CarryNetsModel", "twos", "I", false)
  | 34 => ("CarryNetsModel", "lost", "I", false)
  | 35 => ("CarryNetsModel", "lanes", "[I", true)
  | 36 => ("CarryNetsModel", "sizes", "[I", true)
  | _ => ("CarryNetsModel", "cells", "[I", true)
def tyX11 : Nat → FieldType := fun k => match k with
  | 0 => .int
  | 1 => .array .int
  | 2 => .array .int
  | 3 => .array .long
  | 4 => .int
  | 5 => .int
  | 6 => .array .int
  | 7 => .array .int
  | 8 => .array .int
  | 9 => .array .int
  | 10 => .int
  | 11 => .int
  | 12 => .int
  | 13 => .int
  | 14 => .int
  | 15 => .int
  | 16 => .int
  | 17 => .array .int
  | 18 => .array .int
  | 19 => .array .int
  | 20 => .int
  | 21 => .int
  | 22 => .array .int
  | 23 => .array .int
  | 24 => .int
  | 25 => .array .int
  | 26 => .array .int
  | 27 => .array .int
  | 28 => .array .long
  | 29 => .array .long
  | 30 => .array .int
  | 31 => .array .int
  | 32 => .int
  | 33 => .int
  | 34 => .int
  | 35 => .array .int
  | 36 => .array .int
  | _ => .array .int
theorem nmX11 : ∀ a, a < 38 → ∀ b, b < 38 → a ≠ b → (TX11 a).2.1 ≠ (TX11 b).2.1 := by decide +kernel
theorem tyX11_ok : ∀ k, k < 38 → parseFieldDescriptor (TX11 k).2.2.1 = some (tyX11 k) := by decide +kernel
abbrev cX11_init : ByteArray := prog_13_method_1_code
def yX11_init : MethodName := ⟨RX11, "<init>", "()V"⟩
abbrev cX11_in : ByteArray := prog_13_method_3_code
def yX11_in : MethodName := ⟨RX11, "in", "(JJJ)Z"⟩
abbrev cX11_bits : ByteArray := prog_13_method_4_code
def yX11_bits : MethodName := ⟨RX11, "bits", "(J)I"⟩
abbrev cX11_begins : ByteArray := prog_13_method_5_code
def yX11_begins : MethodName := ⟨RX11, "begins", "()V"⟩
abbrev cX11_joins : ByteArray := prog_13_method_6_code
def yX11_joins : MethodName := ⟨RX11, "joins", "(J)V"⟩
abbrev cX11_cellsOf : ByteArray := prog_13_method_7_code
def yX11_cellsOf : MethodName := ⟨RX11, "cellsOf", "(II)J"⟩
abbrev cX11_goesTo : ByteArray := prog_13_method_8_code
def yX11_goesTo : MethodName := ⟨RX11, "goesTo", "(II)V"⟩
abbrev cX11_isWhole : ByteArray := prog_13_method_9_code
def yX11_isWhole : MethodName := ⟨RX11, "isWhole", "(I)Z"⟩
abbrev cX11_isNet : ByteArray := prog_13_method_10_code
def yX11_isNet : MethodName := ⟨RX11, "isNet", "(I)Z"⟩
abbrev cX11_feed : ByteArray := prog_13_method_11_code
def yX11_feed : MethodName := ⟨RX11, "feed", "(J)I"⟩
abbrev cX11_end : ByteArray := prog_13_method_12_code
def yX11_end : MethodName := ⟨RX11, "end", "(I)I"⟩
abbrev cX11_wants : ByteArray := prog_13_method_13_code
def yX11_wants : MethodName := ⟨RX11, "wants", "(ZI)V"⟩
abbrev cX11_look : ByteArray := prog_13_method_14_code
def yX11_look : MethodName := ⟨RX11, "look", "(I)I"⟩
abbrev cX11_next : ByteArray := prog_13_method_15_code
def yX11_next : MethodName := ⟨RX11, "next", "()V"⟩
abbrev cX11_isSign : ByteArray := prog_13_method_16_code
def yX11_isSign : MethodName := ⟨RX11, "isSign", "(I)Z"⟩
abbrev cX11_readRow : ByteArray := prog_13_method_17_code
def yX11_readRow : MethodName := ⟨RX11, "readRow", "(II)J"⟩
abbrev cX11_text : ByteArray := prog_13_method_18_code
def yX11_text : MethodName := ⟨RX11, "text", "()I"⟩
abbrev cX11_fault : ByteArray := prog_13_method_19_code
def yX11_fault : MethodName := ⟨RX11, "fault", "()I"⟩
abbrev cX11_comes : ByteArray := prog_13_method_20_code
def yX11_comes : MethodName := ⟨RX11, "comes", "(J)V"⟩
abbrev cX11_placesFrom : ByteArray := prog_13_method_21_code
def yX11_placesFrom : MethodName := ⟨RX11, "placesFrom", "(III)J"⟩
abbrev cX11_upAndDown : ByteArray := prog_13_method_22_code
def yX11_upAndDown : MethodName := ⟨RX11, "upAndDown", "(I)V"⟩
abbrev cX11_net : ByteArray := prog_13_method_23_code
def yX11_net : MethodName := ⟨RX11, "net", "(II)I"⟩
abbrev cX11_drop : ByteArray := prog_13_method_24_code
def yX11_drop : MethodName := ⟨RX11, "drop", "()I"⟩
abbrev cX11_findTakes : ByteArray := prog_13_method_25_code
def yX11_findTakes : MethodName := ⟨RX11, "findTakes", "(II)V"⟩
abbrev cX11_loadOf : ByteArray := prog_13_method_26_code
def yX11_loadOf : MethodName := ⟨RX11, "loadOf", "(I)I"⟩
abbrev cX11_tracks : ByteArray := prog_13_method_27_code
def yX11_tracks : MethodName := ⟨RX11, "tracks", "()I"⟩
abbrev cX11_told : ByteArray := prog_13_method_28_code
def yX11_told : MethodName := ⟨RX11, "told", "(II)I"⟩
abbrev cX11_cell : ByteArray := prog_13_method_29_code
def yX11_cell : MethodName := ⟨RX11, "cell", "(IIII)I"⟩
abbrev cX11_pace : ByteArray := prog_13_method_30_code
def yX11_pace : MethodName := ⟨RX11, "pace", "(II)I"⟩
abbrev cX11_start : ByteArray := prog_13_method_31_code
def yX11_start : MethodName := ⟨RX11, "start", "(II)I"⟩
abbrev cX11_time : ByteArray := prog_13_method_32_code
def yX11_time : MethodName := ⟨RX11, "time", "(II)I"⟩
abbrev cX11_sum : ByteArray := prog_13_method_33_code
def yX11_sum : MethodName := ⟨RX11, "sum", "(IIIZI)J"⟩
abbrev cX11_spansOf : ByteArray := prog_13_method_34_code
def yX11_spansOf : MethodName := ⟨RX11, "spansOf", "(II)V"⟩
abbrev cX11_behind : ByteArray := prog_13_method_35_code
def yX11_behind : MethodName := ⟨RX11, "behind", "(III)I"⟩
abbrev cX11_few : ByteArray := prog_13_method_36_code
def yX11_few : MethodName := ⟨RX11, "few", "(I)I"⟩
abbrev cX11_fillsRow : ByteArray := prog_13_method_37_code
def yX11_fillsRow : MethodName := ⟨RX11, "fillsRow", "(III)V"⟩
abbrev cX11_fills : ByteArray := prog_13_method_38_code
def yX11_fills : MethodName := ⟨RX11, "fills", "(II)V"⟩
abbrev cX11_firstState : ByteArray := prog_13_method_39_code
def yX11_firstState : MethodName := ⟨RX11, "firstState", "(I)I"⟩
abbrev cX11_isBest : ByteArray := prog_13_method_40_code
def yX11_isBest : MethodName := ⟨RX11, "isBest", "(III)Z"⟩
abbrev cX11_best : ByteArray := prog_13_method_41_code
def yX11_best : MethodName := ⟨RX11, "best", "(IIII)I"⟩
abbrev cX11_made : ByteArray := prog_13_method_42_code
def yX11_made : MethodName := ⟨RX11, "made", "(III)I"⟩
abbrev cX11_blocks : ByteArray := prog_13_method_43_code
def yX11_blocks : MethodName := ⟨RX11, "blocks", "(JII)I"⟩
abbrev cX11_least : ByteArray := prog_13_method_44_code
def yX11_least : MethodName := ⟨RX11, "least", "(II)I"⟩
abbrev cX11_roomOf : ByteArray := prog_13_method_45_code
def yX11_roomOf : MethodName := ⟨RX11, "roomOf", "(IIIIII)I"⟩
abbrev cX11_aboveThen : ByteArray := prog_13_method_46_code
def yX11_aboveThen : MethodName := ⟨RX11, "aboveThen", "(IIIII)I"⟩
abbrev cX11_fillsBelow : ByteArray := prog_13_method_47_code
def yX11_fillsBelow : MethodName := ⟨RX11, "fillsBelow", "(IIII)V"⟩
abbrev cX11_sizes : ByteArray := prog_13_method_48_code
def yX11_sizes : MethodName := ⟨RX11, "sizes", "(IIII)J"⟩
abbrev cX11_run : ByteArray := prog_13_method_49_code
def yX11_run : MethodName := ⟨RX11, "run", "(III)I"⟩
abbrev cX11_runsOf : ByteArray := prog_13_method_50_code
def yX11_runsOf : MethodName := ⟨RX11, "runsOf", "(II)J"⟩
abbrev cX11_runs : ByteArray := prog_13_method_51_code
def yX11_runs : MethodName := ⟨RX11, "runs", "(II)J"⟩
abbrev cX11_mean : ByteArray := prog_13_method_52_code
def yX11_mean : MethodName := ⟨RX11, "mean", "(II)J"⟩
abbrev cX11_height : ByteArray := prog_13_method_53_code
def yX11_height : MethodName := ⟨RX11, "height", "(II)I"⟩
abbrev cX11_product : ByteArray := prog_13_method_54_code
def yX11_product : MethodName := ⟨RX11, "product", "(II)I"⟩
abbrev cX11_greatest : ByteArray := prog_13_method_55_code
def yX11_greatest : MethodName := ⟨RX11, "greatest", "([I)I"⟩
abbrev cX11_rowDown : ByteArray := prog_13_method_56_code
def yX11_rowDown : MethodName := ⟨RX11, "rowDown", "(I)V"⟩
abbrev cX11_copies : ByteArray := prog_13_method_57_code
def yX11_copies : MethodName := ⟨RX11, "copies", "()V"⟩
abbrev cX11_down : ByteArray := prog_13_method_58_code
def yX11_down : MethodName := ⟨RX11, "down", "(I)I"⟩
abbrev cX11_downs : ByteArray := prog_13_method_59_code
def yX11_downs : MethodName := ⟨RX11, "downs", "(II)I"⟩
abbrev cX11_allBits : ByteArray := prog_13_method_60_code
def yX11_allBits : MethodName := ⟨RX11, "allBits", "()I"⟩
abbrev cX11_heap : ByteArray := prog_13_method_61_code
def yX11_heap : MethodName := ⟨RX11, "heap", "(I)I"⟩
abbrev cX11_digitOf : ByteArray := prog_13_method_62_code
def yX11_digitOf : MethodName := ⟨RX11, "digitOf", "(II)I"⟩
abbrev cX11_digit : ByteArray := prog_13_method_63_code
def yX11_digit : MethodName := ⟨RX11, "digit", "(II)I"⟩
abbrev cX11_times : ByteArray := prog_13_method_64_code
def yX11_times : MethodName := ⟨RX11, "times", "(IIII)J"⟩
abbrev cX11_isSheet : ByteArray := prog_13_method_65_code
def yX11_isSheet : MethodName := ⟨RX11, "isSheet", "(II)Z"⟩
abbrev cX11_sheet : ByteArray := prog_13_method_66_code
def yX11_sheet : MethodName := ⟨RX11, "sheet", "(III)I"⟩
abbrev cX11_lay : ByteArray := prog_13_method_67_code
def yX11_lay : MethodName := ⟨RX11, "lay", "(III)I"⟩
abbrev cX11_heights : ByteArray := prog_13_method_68_code
def yX11_heights : MethodName := ⟨RX11, "heights", "(IIII)I"⟩
abbrev cX11_count : ByteArray := prog_13_method_69_code
def yX11_count : MethodName := ⟨RX11, "count", "(I)I"⟩
def RJ6 : String := "java/lang/Integer"
abbrev cJ6_bitCount_0f7a4 : ByteArray := prog_14_method_49_code
def yJ6_bitCount_0f7a4 : MethodName := ⟨RJ6, "bitCount", "(I)I"⟩
abbrev cJM_max : ByteArray := prog_15_method_65_code
def yJM_max : MethodName := ⟨"java/lang/Math", "max", "(II)I"⟩
abbrev cJM_min : ByteArray := prog_15_method_69_code
def yJM_min : MethodName := ⟨"java/lang/Math", "min", "(II)I"⟩


def GW : List Cond := lw_tbl.filter goodWord
theorem gw0 {w : Cond} (i : Nat) (h : (k2_sels lw_privs)[i]? = some w) (g : goodWord w = true) : w ∈ GW := List.mem_filter.mpr ⟨List.mem_append_left _ (List.mem_of_getElem? h), g⟩
theorem gw1 {w : Cond} (i : Nat) (h : tables_1_1[i]? = some w) (g : goodWord w = true) : w ∈ GW := List.mem_filter.mpr ⟨List.mem_append_right _ (ts1 i h), g⟩
theorem gw2 {w : Cond} (i : Nat) (h : tables_1_2[i]? = some w) (g : goodWord w = true) : w ∈ GW := List.mem_filter.mpr ⟨List.mem_append_right _ (ts2 i h), g⟩
theorem gw3 {w : Cond} (i : Nat) (h : tables_1_3[i]? = some w) (g : goodWord w = true) : w ∈ GW := List.mem_filter.mpr ⟨List.mem_append_right _ (ts3 i h), g⟩
theorem gw4 {w : Cond} (i : Nat) (h : tables_1_4[i]? = some w) (g : goodWord w = true) : w ∈ GW := List.mem_filter.mpr ⟨List.mem_append_right _ (ts4 i h), g⟩
theorem gw5 {w : Cond} (i : Nat) (h : tables_1_5[i]? = some w) (g : goodWord w = true) : w ∈ GW := List.mem_filter.mpr ⟨List.mem_append_right _ (ts5 i h), g⟩
theorem gw6 {w : Cond} (i : Nat) (h : tables_1_6[i]? = some w) (g : goodWord w = true) : w ∈ GW := List.mem_filter.mpr ⟨List.mem_append_right _ (ts6 i h), g⟩
theorem gw_good : GoodIn GW GW := fun w h => ⟨h, good_of_word (List.mem_filter.mp h).2⟩
theorem gw_tbl {args : Array Value} {s : State} (h : ∀ w ∈ lw_tbl, w.before args s = true) : ∀ w ∈ GW, w.before args s = true := fun w hw => h w (List.mem_filter.mp hw).1
abbrev Mt : Type := String × ByteArray × Nat × Option FieldType
abbrev rm (d : Nat) : Room := { frames := d, cells := 0, slots := 0, locals := 64 * d }
def yOk (y : MethodName) (M : Mt) (n : Nat) : Prop := (y.cls ≠ "java/lang/invoke/MethodHandle" ∧ y.cls ≠ "java/lang/invoke/VarHandle" ∧ (parseMethodDescriptor y.desc).map (fun d => d.parameters.length) = some n) ∧ plainName y.cls = true ∧ M.1 = y.cls ∧ M.2.2.1 ≤ 40
def MV (y : MethodName) (M : Mt) (n : Nat) : Prop := yOk y M n ∧ Cond.initialized y.cls ∈ GW ∧ Cond.code y M.2.1 M.2.2.1 M.2.2.2 ∈ GW ∧ Cond.instanceMethod y ∈ GW ∧ Cond.selects y.cls y y ∈ GW
def MS (y : MethodName) (M : Mt) (n : Nat) : Prop := yOk y M n ∧ Cond.initialized y.cls ∈ GW ∧ Cond.code y M.2.1 M.2.2.1 M.2.2.2 ∈ GW ∧ Cond.static y ∈ GW
def isNest : Cond → Bool := fun w => match w with | .methodLinkNest _ _ _ _ => true | _ => false
def nestW : List Cond := tables_1.filter isNest
theorem nw {w : Cond} (h : w ∈ tables_1) (g : isNest w = true) : w ∈ nestW := List.mem_filter.mpr ⟨h, g⟩
abbrev cls : List vw_C := [(RX0, TX0, 8), (RX1, TX1, 3), (RX2, TX2, 5), (RX3, TX3, 4), (RX4, TX4, 7), (RX6, TX6, 4), (RX7, TX7, 3), (RX8, TX8, 4), (RX9, TX9, 7), (RX10, TX10, 12), (RX11, TX11, 38)]

theorem cn0 : ("CarryNets" : String) ≠ "java/lang/invoke/MethodHandle" ∧ ("CarryNets" : String) ≠ "java/lang/invoke/VarHandle" ∧ plainName "CarryNets" = true := by decide +kernel
theorem ci0 : Cond.initialized "CarryNets" ∈ GW := (gw1 1 rfl rfl)
theorem cn1 : ("CarryNets$BestNets" : String) ≠ "java/lang/invoke/MethodHandle" ∧ ("CarryNets$BestNets" : String) ≠ "java/lang/invoke/VarHandle" ∧ plainName "CarryNets$BestNets" = true := by decide +kernel
theorem ci1 : Cond.initialized "CarryNets$BestNets" ∈ GW := (gw1 6 rfl rfl)
theorem cn2 : ("CarryNets$Blocks" : String) ≠ "java/lang/invoke/MethodHandle" ∧ ("CarryNets$Blocks" : String) ≠ "java/lang/invoke/VarHandle" ∧ plainName "CarryNets$Blocks" = true := by decide +kernel
theorem ci2 : Cond.initialized "CarryNets$Blocks" ∈ GW := (gw1 7 rfl rfl)
theorem cn3 : ("CarryNets$Clock" : String) ≠ "java/lang/invoke/MethodHandle" ∧ ("CarryNets$Clock" : String) ≠ "java/lang/invoke/VarHandle" ∧ plainName "CarryNets$Clock" = true := by decide +kernel
theorem ci3 : Cond.initialized "CarryNets$Clock" ∈ GW := (gw1 5 rfl rfl)
theorem cn4 : ("CarryNets$Columns" : String) ≠ "java/lang/invoke/MethodHandle" ∧ ("CarryNets$Columns" : String) ≠ "java/lang/invoke/VarHandle" ∧ plainName "CarryNets$Columns" = true := by decide +kernel
theorem ci4 : Cond.initialized "CarryNets$Columns" ∈ GW := (gw1 8 rfl rfl)
theorem cn5 : ("CarryNets$Judge" : String) ≠ "java/lang/invoke/MethodHandle" ∧ ("CarryNets$Judge" : String) ≠ "java/lang/invoke/VarHandle" ∧ plainName "CarryNets$Judge" = true := by decide +kernel
theorem ci5 : Cond.initialized "CarryNets$Judge" ∈ GW := (gw1 4 rfl rfl)
theorem cn6 : ("CarryNets$Laws" : String) ≠ "java/lang/invoke/MethodHandle" ∧ ("CarryNets$Laws" : String) ≠ "java/lang/invoke/VarHandle" ∧ plainName "CarryNets$Laws" = true := by decide +kernel
theorem ci6 : Cond.initialized "CarryNets$Laws" ∈ GW := (gw1 13 rfl rfl)
theorem cn7 : ("CarryNets$Net" : String) ≠ "java/lang/invoke/MethodHandle" ∧ ("CarryNets$Net" : String) ≠ "java/lang/invoke/VarHandle" ∧ plainName "CarryNets$Net" = true := by decide +kernel
theorem ci7 : Cond.initialized "CarryNets$Net" ∈ GW := (gw1 9 rfl rfl)
theorem cn8 : ("CarryNets$Sheet" : String) ≠ "java/lang/invoke/MethodHandle" ∧ ("CarryNets$Sheet" : String) ≠ "java/lang/invoke/VarHandle" ∧ plainName "CarryNets$Sheet" = true := by decide +kernel
theorem ci8 : Cond.initialized "CarryNets$Sheet" ∈ GW := (gw1 10 rfl rfl)
theorem cn9 : ("CarryNets$Spans" : String) ≠ "java/lang/invoke/MethodHandle" ∧ ("CarryNets$Spans" : String) ≠ "java/lang/invoke/VarHandle" ∧ plainName "CarryNets$Spans" = true := by decide +kernel
theorem ci9 : Cond.initialized "CarryNets$Spans" ∈ GW := (gw1 3 rfl rfl)
theorem cn10 : ("CarryNets$Tape" : String) ≠ "java/lang/invoke/MethodHandle" ∧ ("CarryNets$Tape" : String) ≠ "java/lang/invoke/VarHandle" ∧ plainName "CarryNets$Tape" = true := by decide +kernel
theorem ci10 : Cond.initialized "CarryNets$Tape" ∈ GW := (gw1 2 rfl rfl)
theorem cn11 : ("CarryNetsModel" : String) ≠ "java/lang/invoke/MethodHandle" ∧ ("CarryNetsModel" : String) ≠ "java/lang/invoke/VarHandle" ∧ plainName "CarryNetsModel" = true := by decide +kernel
theorem ci11 : Cond.initialized "CarryNetsModel" ∈ GW := (gw1 11 rfl rfl)
theorem cn12 : ("java/lang/Integer" : String) ≠ "java/lang/invoke/MethodHandle" ∧ ("java/lang/Integer" : String) ≠ "java/lang/invoke/VarHandle" ∧ plainName "java/lang/Integer" = true := by decide +kernel
theorem ci12 : Cond.initialized "java/lang/Integer" ∈ GW := (gw1 14 rfl rfl)
theorem dn0 : (parseMethodDescriptor "()I").map (fun d => d.parameters.length) = some 0 := by decide +kernel
theorem dn1 : (parseMethodDescriptor "()J").map (fun d => d.parameters.length) = some 0 := by decide +kernel
theorem dn2 : (parseMethodDescriptor "()LCarryNets$Net;").map (fun d => d.parameters.length) = some 0 := by decide +kernel
theorem dn3 : (parseMethodDescriptor "()V").map (fun d => d.parameters.length) = some 0 := by decide +kernel
theorem dn4 : (parseMethodDescriptor "()Z").map (fun d => d.parameters.length) = some 0 := by decide +kernel
theorem dn5 : (parseMethodDescriptor "(I)I").map (fun d => d.parameters.length) = some 1 := by decide +kernel
theorem dn6 : (parseMethodDescriptor "(I)J").map (fun d => d.parameters.length) = some 1 := by decide +kernel
theorem dn7 : (parseMethodDescriptor "(I)LCarryNets$Net;").map (fun d => d.parameters.length) = some 1 := by decide +kernel
theorem dn8 : (parseMethodDescriptor "(I)LCarryNets$Sheet;").map (fun d => d.parameters.length) = some 1 := by decide +kernel
theorem dn9 : (parseMethodDescriptor "(I)V").map (fun d => d.parameters.length) = some 1 := by decide +kernel
theorem dn10 : (parseMethodDescriptor "(I)Z").map (fun d => d.parameters.length) = some 1 := by decide +kernel
theorem dn11 : (parseMethodDescriptor "(II)I").map (fun d => d.parameters.length) = some 2 := by decide +kernel
theorem dn12 : (parseMethodDescriptor "(II)J").map (fun d => d.parameters.length) = some 2 := by decide +kernel
theorem dn13 : (parseMethodDescriptor "(II)V").map (fun d => d.parameters.length) = some 2 := by decide +kernel
theorem dn14 : (parseMethodDescriptor "(II)Z").map (fun d => d.parameters.length) = some 2 := by decide +kernel
theorem dn15 : (parseMethodDescriptor "(III)I").map (fun d => d.parameters.length) = some 3 := by decide +kernel
theorem dn16 : (parseMethodDescriptor "(III)J").map (fun d => d.parameters.length) = some 3 := by decide +kernel
theorem dn17 : (parseMethodDescriptor "(III)V").map (fun d => d.parameters.length) = some 3 := by decide +kernel
theorem dn18 : (parseMethodDescriptor "(III)Z").map (fun d => d.parameters.length) = some 3 := by decide +kernel
theorem dn19 : (parseMethodDescriptor "(IIII)I").map (fun d => d.parameters.length) = some 4 := by decide +kernel
theorem dn20 : (parseMethodDescriptor "(IIII)J").map (fun d => d.parameters.length) = some 4 := by decide +kernel
theorem dn21 : (parseMethodDescriptor "(IIII)V").map (fun d => d.parameters.length) = some 4 := by decide +kernel
theorem dn22 : (parseMethodDescriptor "(IIIII)I").map (fun d => d.parameters.length) = some 5 := by decide +kernel
theorem dn23 : (parseMethodDescriptor "(IIIIII)I").map (fun d => d.parameters.length) = some 6 := by decide +kernel
theorem dn24 : (parseMethodDescriptor "(IIIZ)J").map (fun d => d.parameters.length) = some 4 := by decide +kernel
theorem dn25 : (parseMethodDescriptor "(IIIZI)J").map (fun d => d.parameters.length) = some 5 := by decide +kernel
theorem dn26 : (parseMethodDescriptor "(J)I").map (fun d => d.parameters.length) = some 1 := by decide +kernel
theorem dn27 : (parseMethodDescriptor "(J)V").map (fun d => d.parameters.length) = some 1 := by decide +kernel
theorem dn28 : (parseMethodDescriptor "(J)Z").map (fun d => d.parameters.length) = some 1 := by decide +kernel
theorem dn29 : (parseMethodDescriptor "(JI)I").map (fun d => d.parameters.length) = some 2 := by decide +kernel
theorem dn30 : (parseMethodDescriptor "(JII)I").map (fun d => d.parameters.length) = some 3 := by decide +kernel
theorem dn31 : (parseMethodDescriptor "(JJJ)Z").map (fun d => d.parameters.length) = some 3 := by decide +kernel
theorem dn32 : (parseMethodDescriptor "(LCarryNets$Columns;)V").map (fun d => d.parameters.length) = some 1 := by decide +kernel
theorem dn33 : (parseMethodDescriptor "(LCarryNets$Net;)V").map (fun d => d.parameters.length) = some 1 := by decide +kernel
theorem dn34 : (parseMethodDescriptor "(LCarryNets$Net;)Z").map (fun d => d.parameters.length) = some 1 := by decide +kernel
theorem dn35 : (parseMethodDescriptor "(LCarryNets$Net;I)V").map (fun d => d.parameters.length) = some 2 := by decide +kernel
theorem dn36 : (parseMethodDescriptor "(LCarryNets$Net;I)Z").map (fun d => d.parameters.length) = some 2 := by decide +kernel
theorem dn37 : (parseMethodDescriptor "(LCarryNets$Net;II)V").map (fun d => d.parameters.length) = some 3 := by decide +kernel
theorem dn38 : (parseMethodDescriptor "(ZI)V").map (fun d => d.parameters.length) = some 2 := by decide +kernel
theorem dn39 : (parseMethodDescriptor "([I)I").map (fun d => d.parameters.length) = some 1 := by decide +kernel
theorem dn40 : (parseMethodDescriptor "([II)I").map (fun d => d.parameters.length) = some 2 := by decide +kernel
theorem dn41 : (parseMethodDescriptor "([III)V").map (fun d => d.parameters.length) = some 3 := by decide +kernel
def MX10_init : Mt := (yX10_init.cls, cX10_init, 2, none)
def MX9_init : Mt := (yX9_init.cls, cX9_init, 1, none)
def MX8_init : Mt := (yX8_init.cls, cX8_init, 1, none)
def MX4_init : Mt := (yX4_init.cls, cX4_init, 1, none)
def MX2_init : Mt := (yX2_init.cls, cX2_init, 1, none)
def MX0_init : Mt := (yX0_init.cls, cX0_init, 1, none)
def MX1_init : Mt := (yX1_init.cls, cX1_init, 1, none)
def MX3_init : Mt := (yX3_init.cls, cX3_init, 1, none)
def MX6_init : Mt := (yX6_init.cls, cX6_init, 1, none)
def MX7_init : Mt := (yX7_init.cls, cX7_init, 1, none)
def MX10_feed : Mt := (yX10_feed.cls, cX10_feed, 3, (some .int))
theorem mX10_feed : MV yX10_feed MX10_feed 1 := ⟨⟨⟨cn0.1, cn0.2.1, dn26⟩, cn0.2.2, rfl, Nat.le_of_ble_eq_true rfl⟩, ci0, (gw2 58 rfl rfl), (gw2 56 rfl rfl), (gw2 57 rfl rfl)⟩
def MX9_append : Mt := (yX9_append.cls, cX9_append, 4, (some .boolean))
theorem mX9_append : MV yX9_append MX9_append 1 := ⟨⟨⟨cn10.1, cn10.2.1, dn28⟩, cn10.2.2, rfl, Nat.le_of_ble_eq_true rfl⟩, ci10, (gw2 62 rfl rfl), (gw2 60 rfl rfl), (gw2 61 rfl rfl)⟩
def MX10_end : Mt := (yX10_end.cls, cX10_end, 3, (some .int))
theorem mX10_end : MV yX10_end MX10_end 1 := ⟨⟨⟨cn0.1, cn0.2.1, dn5⟩, cn0.2.2, rfl, Nat.le_of_ble_eq_true rfl⟩, ci0, (gw2 66 rfl rfl), (gw2 64 rfl rfl), (gw2 65 rfl rfl)⟩
def MX10_text : Mt := (yX10_text.cls, cX10_text, 3, (some .int))
theorem mX10_text : MV yX10_text MX10_text 0 := ⟨⟨⟨cn0.1, cn0.2.1, dn0⟩, cn0.2.2, rfl, Nat.le_of_ble_eq_true rfl⟩, ci0, (gw2 70 rfl rfl), (gw2 68 rfl rfl), (gw2 69 rfl rfl)⟩
def MX10_freeNet : Mt := (yX10_freeNet.cls, cX10_freeNet, 1, (some (.object "CarryNets$Net")))
theorem mX10_freeNet : MV yX10_freeNet MX10_freeNet 0 := ⟨⟨⟨cn0.1, cn0.2.1, dn2⟩, cn0.2.2, rfl, Nat.le_of_ble_eq_true rfl⟩, ci0, (gw2 74 rfl rfl), (gw2 73 rfl rfl), (gw0 0 rfl rfl)⟩
def MX9_tells : Mt := (yX9_tells.cls, cX9_tells, 3, (some .boolean))
theorem mX9_tells : MV yX9_tells MX9_tells 1 := ⟨⟨⟨cn10.1, cn10.2.1, dn34⟩, cn10.2.2, rfl, Nat.le_of_ble_eq_true rfl⟩, ci10, (gw2 78 rfl rfl), (gw2 76 rfl rfl), (gw2 77 rfl rfl)⟩
def MX9_readToken : Mt := (yX9_readToken.cls, cX9_readToken, 3, none)
theorem mX9_readToken : MV yX9_readToken MX9_readToken 0 := ⟨⟨⟨cn10.1, cn10.2.1, dn3⟩, cn10.2.2, rfl, Nat.le_of_ble_eq_true rfl⟩, ci10, (gw2 82 rfl rfl), (gw2 81 rfl rfl), (gw0 1 rfl rfl)⟩
def MX9_byteAt : Mt := (yX9_byteAt.cls, cX9_byteAt, 2, (some .int))
theorem mX9_byteAt : MV yX9_byteAt MX9_byteAt 1 := ⟨⟨⟨cn10.1, cn10.2.1, dn5⟩, cn10.2.2, rfl, Nat.le_of_ble_eq_true rfl⟩, ci10, (gw2 86 rfl rfl), (gw2 85 rfl rfl), (gw0 2 rfl rfl)⟩
def MX9_isFigure : Mt := (yX9_isFigure.cls, cX9_isFigure, 1, (some .boolean))
theorem mX9_isFigure : MS yX9_isFigure MX9_isFigure 1 := ⟨⟨⟨cn10.1, cn10.2.1, dn10⟩, cn10.2.2, rfl, Nat.le_of_ble_eq_true rfl⟩, ci10, (gw2 89 rfl rfl), (gw2 88 rfl rfl)⟩
def MX9_readNumber : Mt := (yX9_readNumber.cls, cX9_readNumber, 1, none)
theorem mX9_readNumber : MV yX9_readNumber MX9_readNumber 0 := ⟨⟨⟨cn10.1, cn10.2.1, dn3⟩, cn10.2.2, rfl, Nat.le_of_ble_eq_true rfl⟩, ci10, (gw2 93 rfl rfl), (gw2 92 rfl rfl), (gw0 3 rfl rfl)⟩
def MX9_refuseToken : Mt := (yX9_refuseToken.cls, cX9_refuseToken, 1, (some .boolean))
theorem mX9_refuseToken : MV yX9_refuseToken MX9_refuseToken 0 := ⟨⟨⟨cn10.1, cn10.2.1, dn4⟩, cn10.2.2, rfl, Nat.le_of_ble_eq_true rfl⟩, ci10, (gw2 100 rfl rfl), (gw2 99 rfl rfl), (gw0 4 rfl rfl)⟩
def MX9_refuse : Mt := (yX9_refuse.cls, cX9_refuse, 2, (some .boolean))
theorem mX9_refuse : MV yX9_refuse MX9_refuse 1 := ⟨⟨⟨cn10.1, cn10.2.1, dn10⟩, cn10.2.2, rfl, Nat.le_of_ble_eq_true rfl⟩, ci10, (gw2 104 rfl rfl), (gw2 103 rfl rfl), (gw0 5 rfl rfl)⟩
def MX6_begin : Mt := (yX6_begin.cls, cX6_begin, 2, none)
theorem mX6_begin : MV yX6_begin MX6_begin 1 := ⟨⟨⟨cn7.1, cn7.2.1, dn9⟩, cn7.2.2, rfl, Nat.le_of_ble_eq_true rfl⟩, ci7, (gw2 108 rfl rfl), (gw2 106 rfl rfl), (gw2 107 rfl rfl)⟩
def MX8_begin : Mt := (yX8_begin.cls, cX8_begin, 3, none)
theorem mX8_begin : MV yX8_begin MX8_begin 1 := ⟨⟨⟨cn9.1, cn9.2.1, dn9⟩, cn9.2.2, rfl, Nat.le_of_ble_eq_true rfl⟩, ci9, (gw2 112 rfl rfl), (gw2 110 rfl rfl), (gw2 111 rfl rfl)⟩
def MX10_put : Mt := (yX10_put.cls, cX10_put, 3, none)
theorem mX10_put : MS yX10_put MX10_put 3 := ⟨⟨⟨cn0.1, cn0.2.1, dn41⟩, cn0.2.2, rfl, Nat.le_of_ble_eq_true rfl⟩, ci0, (gw2 115 rfl rfl), (gw2 114 rfl rfl)⟩
def MX9_readRow : Mt := (yX9_readRow.cls, cX9_readRow, 5, (some .boolean))
theorem mX9_readRow : MV yX9_readRow MX9_readRow 2 := ⟨⟨⟨cn10.1, cn10.2.1, dn36⟩, cn10.2.2, rfl, Nat.le_of_ble_eq_true rfl⟩, ci10, (gw2 119 rfl rfl), (gw2 118 rfl rfl), (gw0 6 rfl rfl)⟩
def MX8_openPlaces : Mt := (yX8_openPlaces.cls, cX8_openPlaces, 3, (some .int))
theorem mX8_openPlaces : MV yX8_openPlaces MX8_openPlaces 0 := ⟨⟨⟨cn9.1, cn9.2.1, dn0⟩, cn9.2.2, rfl, Nat.le_of_ble_eq_true rfl⟩, ci9, (gw2 123 rfl rfl), (gw2 121 rfl rfl), (gw2 122 rfl rfl)⟩
def MX10_at : Mt := (yX10_at.cls, cX10_at, 2, (some .int))
theorem mX10_at : MS yX10_at MX10_at 2 := ⟨⟨⟨cn0.1, cn0.2.1, dn40⟩, cn0.2.2, rfl, Nat.le_of_ble_eq_true rfl⟩, ci0, (gw2 126 rfl rfl), (gw2 125 rfl rfl)⟩
def MX6_addRow : Mt := (yX6_addRow.cls, cX6_addRow, 3, none)
theorem mX6_addRow : MV yX6_addRow MX6_addRow 1 := ⟨⟨⟨cn7.1, cn7.2.1, dn9⟩, cn7.2.2, rfl, Nat.le_of_ble_eq_true rfl⟩, ci7, (gw2 130 rfl rfl), (gw2 128 rfl rfl), (gw2 129 rfl rfl)⟩
def MX8_join : Mt := (yX8_join.cls, cX8_join, 4, none)
theorem mX8_join : MV yX8_join MX8_join 1 := ⟨⟨⟨cn9.1, cn9.2.1, dn9⟩, cn9.2.2, rfl, Nat.le_of_ble_eq_true rfl⟩, ci9, (gw2 136 rfl rfl), (gw2 134 rfl rfl), (gw2 135 rfl rfl)⟩
def MX10_keepNet : Mt := (yX10_keepNet.cls, cX10_keepNet, 1, (some .int))
theorem mX10_keepNet : MV yX10_keepNet MX10_keepNet 0 := ⟨⟨⟨cn0.1, cn0.2.1, dn0⟩, cn0.2.2, rfl, Nat.le_of_ble_eq_true rfl⟩, ci0, (gw2 140 rfl rfl), (gw2 139 rfl rfl), (gw0 7 rfl rfl)⟩
def MX9_faultPlace : Mt := (yX9_faultPlace.cls, cX9_faultPlace, 1, (some .int))
theorem mX9_faultPlace : MV yX9_faultPlace MX9_faultPlace 0 := ⟨⟨⟨cn10.1, cn10.2.1, dn0⟩, cn10.2.2, rfl, Nat.le_of_ble_eq_true rfl⟩, ci10, (gw2 144 rfl rfl), (gw2 142 rfl rfl), (gw2 143 rfl rfl)⟩
def MX10_fault : Mt := (yX10_fault.cls, cX10_fault, 1, (some .int))
theorem mX10_fault : MV yX10_fault MX10_fault 0 := ⟨⟨⟨cn0.1, cn0.2.1, dn0⟩, cn0.2.2, rfl, Nat.le_of_ble_eq_true rfl⟩, ci0, (gw2 148 rfl rfl), (gw2 146 rfl rfl), (gw2 147 rfl rfl)⟩
def MX10_net : Mt := (yX10_net.cls, cX10_net, 4, (some .int))
theorem mX10_net : MV yX10_net MX10_net 2 := ⟨⟨⟨cn0.1, cn0.2.1, dn11⟩, cn0.2.2, rfl, Nat.le_of_ble_eq_true rfl⟩, ci0, (gw2 152 rfl rfl), (gw2 150 rfl rfl), (gw2 151 rfl rfl)⟩
def MX5_fill : Mt := (yX5_fill.cls, cX5_fill, 3, none)
theorem mX5_fill : MS yX5_fill MX5_fill 3 := ⟨⟨⟨cn6.1, cn6.2.1, dn37⟩, cn6.2.2, rfl, Nat.le_of_ble_eq_true rfl⟩, ci6, (gw2 155 rfl rfl), (gw2 154 rfl rfl)⟩
def MX5_oneByOne : Mt := (yX5_oneByOne.cls, cX5_oneByOne, 2, none)
theorem mX5_oneByOne : MS yX5_oneByOne MX5_oneByOne 1 := ⟨⟨⟨cn6.1, cn6.2.1, dn33⟩, cn6.2.2, rfl, Nat.le_of_ble_eq_true rfl⟩, ci6, (gw2 159 rfl rfl), (gw2 158 rfl rfl)⟩
def MX5_addRow : Mt := (yX5_addRow.cls, cX5_addRow, 5, none)
theorem mX5_addRow : MS yX5_addRow MX5_addRow 3 := ⟨⟨⟨cn6.1, cn6.2.1, dn37⟩, cn6.2.2, rfl, Nat.le_of_ble_eq_true rfl⟩, ci6, (gw2 162 rfl rfl), (gw2 161 rfl rfl)⟩
def MX5_hasCell : Mt := (yX5_hasCell.cls, cX5_hasCell, 4, (some .boolean))
theorem mX5_hasCell : MS yX5_hasCell MX5_hasCell 3 := ⟨⟨⟨cn6.1, cn6.2.1, dn18⟩, cn6.2.2, rfl, Nat.le_of_ble_eq_true rfl⟩, ci6, (gw2 165 rfl rfl), (gw2 164 rfl rfl)⟩
def MX5_doubling : Mt := (yX5_doubling.cls, cX5_doubling, 3, none)
theorem mX5_doubling : MS yX5_doubling MX5_doubling 2 := ⟨⟨⟨cn6.1, cn6.2.1, dn35⟩, cn6.2.2, rfl, Nat.le_of_ble_eq_true rfl⟩, ci6, (gw2 169 rfl rfl), (gw2 168 rfl rfl)⟩
def MX5_upAndDown : Mt := (yX5_upAndDown.cls, cX5_upAndDown, 3, none)
theorem mX5_upAndDown : MS yX5_upAndDown MX5_upAndDown 1 := ⟨⟨⟨cn6.1, cn6.2.1, dn33⟩, cn6.2.2, rfl, Nat.le_of_ble_eq_true rfl⟩, ci6, (gw2 172 rfl rfl), (gw2 171 rfl rfl)⟩
def MX10_drop : Mt := (yX10_drop.cls, cX10_drop, 1, (some .int))
theorem mX10_drop : MV yX10_drop MX10_drop 0 := ⟨⟨⟨cn0.1, cn0.2.1, dn0⟩, cn0.2.2, rfl, Nat.le_of_ble_eq_true rfl⟩, ci0, (gw2 176 rfl rfl), (gw2 174 rfl rfl), (gw2 175 rfl rfl)⟩
def MX10_told : Mt := (yX10_told.cls, cX10_told, 4, (some .int))
theorem mX10_told : MV yX10_told MX10_told 2 := ⟨⟨⟨cn0.1, cn0.2.1, dn11⟩, cn0.2.2, rfl, Nat.le_of_ble_eq_true rfl⟩, ci0, (gw2 180 rfl rfl), (gw2 178 rfl rfl), (gw2 179 rfl rfl)⟩
def MX10_netNumbered : Mt := (yX10_netNumbered.cls, cX10_netNumbered, 2, (some (.object "CarryNets$Net")))
theorem mX10_netNumbered : MV yX10_netNumbered MX10_netNumbered 1 := ⟨⟨⟨cn0.1, cn0.2.1, dn7⟩, cn0.2.2, rfl, Nat.le_of_ble_eq_true rfl⟩, ci0, (gw2 184 rfl rfl), (gw2 183 rfl rfl), (gw0 8 rfl rfl)⟩
def MX6_row : Mt := (yX6_row.cls, cX6_row, 2, (some .int))
theorem mX6_row : MV yX6_row MX6_row 1 := ⟨⟨⟨cn7.1, cn7.2.1, dn5⟩, cn7.2.2, rfl, Nat.le_of_ble_eq_true rfl⟩, ci7, (gw2 188 rfl rfl), (gw2 186 rfl rfl), (gw2 187 rfl rfl)⟩
def MJ6_bitCount_0f7a4 : Mt := (yJ6_bitCount_0f7a4.cls, cJ6_bitCount_0f7a4, 1, (some .int))
theorem mJ6_bitCount_0f7a4 : MS yJ6_bitCount_0f7a4 MJ6_bitCount_0f7a4 1 := ⟨⟨⟨cn12.1, cn12.2.1, dn5⟩, cn12.2.2, rfl, Nat.le_of_ble_eq_true rfl⟩, ci12, (gw2 192 rfl rfl), (gw2 191 rfl rfl)⟩
def MX8_lowOf : Mt := (yX8_lowOf.cls, cX8_lowOf, 2, (some .int))
theorem mX8_lowOf : MV yX8_lowOf MX8_lowOf 1 := ⟨⟨⟨cn9.1, cn9.2.1, dn5⟩, cn9.2.2, rfl, Nat.le_of_ble_eq_true rfl⟩, ci9, (gw2 199 rfl rfl), (gw2 197 rfl rfl), (gw2 198 rfl rfl)⟩
def MX4_look : Mt := (yX4_look.cls, cX4_look, 3, none)
theorem mX4_look : MV yX4_look MX4_look 1 := ⟨⟨⟨cn5.1, cn5.2.1, dn33⟩, cn5.2.2, rfl, Nat.le_of_ble_eq_true rfl⟩, ci5, (gw2 203 rfl rfl), (gw2 201 rfl rfl), (gw2 202 rfl rfl)⟩
def MX4_lookAtCells : Mt := (yX4_lookAtCells.cls, cX4_lookAtCells, 4, none)
theorem mX4_lookAtCells : MV yX4_lookAtCells MX4_lookAtCells 1 := ⟨⟨⟨cn5.1, cn5.2.1, dn9⟩, cn5.2.2, rfl, Nat.le_of_ble_eq_true rfl⟩, ci5, (gw2 210 rfl rfl), (gw2 209 rfl rfl), (gw0 9 rfl rfl)⟩
def MX8_loadOf : Mt := (yX8_loadOf.cls, cX8_loadOf, 2, (some .int))
theorem mX8_loadOf : MV yX8_loadOf MX8_loadOf 1 := ⟨⟨⟨cn9.1, cn9.2.1, dn5⟩, cn9.2.2, rfl, Nat.le_of_ble_eq_true rfl⟩, ci9, (gw2 214 rfl rfl), (gw2 212 rfl rfl), (gw2 213 rfl rfl)⟩
def MX8_takenBy : Mt := (yX8_takenBy.cls, cX8_takenBy, 2, (some .int))
theorem mX8_takenBy : MV yX8_takenBy MX8_takenBy 1 := ⟨⟨⟨cn9.1, cn9.2.1, dn5⟩, cn9.2.2, rfl, Nat.le_of_ble_eq_true rfl⟩, ci9, (gw2 221 rfl rfl), (gw2 219 rfl rfl), (gw2 220 rfl rfl)⟩
def MX4_lookAtTracks : Mt := (yX4_lookAtTracks.cls, cX4_lookAtTracks, 6, none)
theorem mX4_lookAtTracks : MV yX4_lookAtTracks MX4_lookAtTracks 0 := ⟨⟨⟨cn5.1, cn5.2.1, dn3⟩, cn5.2.2, rfl, Nat.le_of_ble_eq_true rfl⟩, ci5, (gw2 227 rfl rfl), (gw2 226 rfl rfl), (gw0 10 rfl rfl)⟩
def MX8_whole : Mt := (yX8_whole.cls, cX8_whole, 1, (some .boolean))
theorem mX8_whole : MV yX8_whole MX8_whole 0 := ⟨⟨⟨cn9.1, cn9.2.1, dn4⟩, cn9.2.2, rfl, Nat.le_of_ble_eq_true rfl⟩, ci9, (gw2 231 rfl rfl), (gw2 229 rfl rfl), (gw2 230 rfl rfl)⟩
def MX10_cell : Mt := (yX10_cell.cls, cX10_cell, 7, (some .int))
theorem mX10_cell : MV yX10_cell MX10_cell 4 := ⟨⟨⟨cn0.1, cn0.2.1, dn19⟩, cn0.2.2, rfl, Nat.le_of_ble_eq_true rfl⟩, ci0, (gw2 236 rfl rfl), (gw2 234 rfl rfl), (gw2 235 rfl rfl)⟩
def MX10_pace : Mt := (yX10_pace.cls, cX10_pace, 3, (some .int))
theorem mX10_pace : MV yX10_pace MX10_pace 2 := ⟨⟨⟨cn0.1, cn0.2.1, dn11⟩, cn0.2.2, rfl, Nat.le_of_ble_eq_true rfl⟩, ci0, (gw3 4 rfl rfl), (gw3 2 rfl rfl), (gw3 3 rfl rfl)⟩
def MX10_start : Mt := (yX10_start.cls, cX10_start, 4, (some .int))
theorem mX10_start : MV yX10_start MX10_start 2 := ⟨⟨⟨cn0.1, cn0.2.1, dn11⟩, cn0.2.2, rfl, Nat.le_of_ble_eq_true rfl⟩, ci0, (gw3 8 rfl rfl), (gw3 6 rfl rfl), (gw3 7 rfl rfl)⟩
def MX10_time : Mt := (yX10_time.cls, cX10_time, 4, (some .int))
theorem mX10_time : MV yX10_time MX10_time 2 := ⟨⟨⟨cn0.1, cn0.2.1, dn11⟩, cn0.2.2, rfl, Nat.le_of_ble_eq_true rfl⟩, ci0, (gw3 14 rfl rfl), (gw3 12 rfl rfl), (gw3 13 rfl rfl)⟩
def MX2_follow : Mt := (yX2_follow.cls, cX2_follow, 3, none)
theorem mX2_follow : MV yX2_follow MX2_follow 1 := ⟨⟨⟨cn3.1, cn3.2.1, dn33⟩, cn3.2.2, rfl, Nat.le_of_ble_eq_true rfl⟩, ci3, (gw3 18 rfl rfl), (gw3 16 rfl rfl), (gw3 17 rfl rfl)⟩
def MX2_passRow : Mt := (yX2_passRow.cls, cX2_passRow, 5, none)
theorem mX2_passRow : MV yX2_passRow MX2_passRow 1 := ⟨⟨⟨cn3.1, cn3.2.1, dn9⟩, cn3.2.2, rfl, Nat.le_of_ble_eq_true rfl⟩, ci3, (gw3 27 rfl rfl), (gw3 26 rfl rfl), (gw0 11 rfl rfl)⟩
def MX2_readyAt : Mt := (yX2_readyAt.cls, cX2_readyAt, 2, (some .int))
theorem mX2_readyAt : MV yX2_readyAt MX2_readyAt 1 := ⟨⟨⟨cn3.1, cn3.2.1, dn5⟩, cn3.2.2, rfl, Nat.le_of_ble_eq_true rfl⟩, ci3, (gw3 32 rfl rfl), (gw3 30 rfl rfl), (gw3 31 rfl rfl)⟩
def MX2_latest : Mt := (yX2_latest.cls, cX2_latest, 4, (some .int))
theorem mX2_latest : MV yX2_latest MX2_latest 1 := ⟨⟨⟨cn3.1, cn3.2.1, dn5⟩, cn3.2.2, rfl, Nat.le_of_ble_eq_true rfl⟩, ci3, (gw3 38 rfl rfl), (gw3 36 rfl rfl), (gw3 37 rfl rfl)⟩
def MX10_sum : Mt := (yX10_sum.cls, cX10_sum, 7, (some .long))
theorem mX10_sum : MV yX10_sum MX10_sum 5 := ⟨⟨⟨cn0.1, cn0.2.1, dn25⟩, cn0.2.2, rfl, Nat.le_of_ble_eq_true rfl⟩, ci0, (gw3 43 rfl rfl), (gw3 41 rfl rfl), (gw3 42 rfl rfl)⟩
def MX10_sumBits : Mt := (yX10_sumBits.cls, cX10_sumBits, 4, (some .long))
theorem mX10_sumBits : MS yX10_sumBits MX10_sumBits 4 := ⟨⟨⟨cn0.1, cn0.2.1, dn24⟩, cn0.2.2, rfl, Nat.le_of_ble_eq_true rfl⟩, ci0, (gw3 48 rfl rfl), (gw3 47 rfl rfl)⟩
def MX10_plainSum : Mt := (yX10_plainSum.cls, cX10_plainSum, 4, (some .long))
theorem mX10_plainSum : MS yX10_plainSum MX10_plainSum 4 := ⟨⟨⟨cn0.1, cn0.2.1, dn24⟩, cn0.2.2, rfl, Nat.le_of_ble_eq_true rfl⟩, ci0, (gw3 51 rfl rfl), (gw3 50 rfl rfl)⟩
def MX10_bitsBelow : Mt := (yX10_bitsBelow.cls, cX10_bitsBelow, 1, (some .long))
theorem mX10_bitsBelow : MS yX10_bitsBelow MX10_bitsBelow 1 := ⟨⟨⟨cn0.1, cn0.2.1, dn6⟩, cn0.2.2, rfl, Nat.le_of_ble_eq_true rfl⟩, ci0, (gw3 54 rfl rfl), (gw3 53 rfl rfl)⟩
def MX10_carryBits : Mt := (yX10_carryBits.cls, cX10_carryBits, 4, (some .long))
theorem mX10_carryBits : MS yX10_carryBits MX10_carryBits 4 := ⟨⟨⟨cn0.1, cn0.2.1, dn24⟩, cn0.2.2, rfl, Nat.le_of_ble_eq_true rfl⟩, ci0, (gw3 57 rfl rfl), (gw3 56 rfl rfl)⟩
def MX10_best : Mt := (yX10_best.cls, cX10_best, 5, (some .int))
theorem mX10_best : MV yX10_best MX10_best 4 := ⟨⟨⟨cn0.1, cn0.2.1, dn19⟩, cn0.2.2, rfl, Nat.le_of_ble_eq_true rfl⟩, ci0, (gw3 61 rfl rfl), (gw3 59 rfl rfl), (gw3 60 rfl rfl)⟩
def MX10_bestIsTold : Mt := (yX10_bestIsTold.cls, cX10_bestIsTold, 3, (some .boolean))
theorem mX10_bestIsTold : MS yX10_bestIsTold MX10_bestIsTold 3 := ⟨⟨⟨cn0.1, cn0.2.1, dn18⟩, cn0.2.2, rfl, Nat.le_of_ble_eq_true rfl⟩, ci0, (gw3 64 rfl rfl), (gw3 63 rfl rfl)⟩
def MX0_search : Mt := (yX0_search.cls, cX0_search, 5, (some .boolean))
theorem mX0_search : MV yX0_search MX0_search 3 := ⟨⟨⟨cn1.1, cn1.2.1, dn18⟩, cn1.2.2, rfl, Nat.le_of_ble_eq_true rfl⟩, ci1, (gw3 68 rfl rfl), (gw3 66 rfl rfl), (gw3 67 rfl rfl)⟩
def MX0_startState : Mt := (yX0_startState.cls, cX0_startState, 3, (some .int))
theorem mX0_startState : MV yX0_startState MX0_startState 0 := ⟨⟨⟨cn1.1, cn1.2.1, dn0⟩, cn1.2.2, rfl, Nat.le_of_ble_eq_true rfl⟩, ci1, (gw3 72 rfl rfl), (gw3 71 rfl rfl), (gw0 12 rfl rfl)⟩
def MX0_waysOn : Mt := (yX0_waysOn.cls, cX0_waysOn, 4, (some .int))
theorem mX0_waysOn : MV yX0_waysOn MX0_waysOn 3 := ⟨⟨⟨cn1.1, cn1.2.1, dn15⟩, cn1.2.2, rfl, Nat.le_of_ble_eq_true rfl⟩, ci1, (gw3 76 rfl rfl), (gw3 75 rfl rfl), (gw0 13 rfl rfl)⟩
def MX0_found : Mt := (yX0_found.cls, cX0_found, 3, (some .int))
theorem mX0_found : MV yX0_found MX0_found 1 := ⟨⟨⟨cn1.1, cn1.2.1, dn5⟩, cn1.2.2, rfl, Nat.le_of_ble_eq_true rfl⟩, ci1, (gw3 80 rfl rfl), (gw3 79 rfl rfl), (gw0 14 rfl rfl)⟩
def MX0_longestChain : Mt := (yX0_longestChain.cls, cX0_longestChain, 7, (some .int))
theorem mX0_longestChain : MV yX0_longestChain MX0_longestChain 1 := ⟨⟨⟨cn1.1, cn1.2.1, dn5⟩, cn1.2.2, rfl, Nat.le_of_ble_eq_true rfl⟩, ci1, (gw3 86 rfl rfl), (gw3 85 rfl rfl), (gw0 15 rfl rfl)⟩
def MX0_part : Mt := (yX0_part.cls, cX0_part, 2, (some .int))
theorem mX0_part : MS yX0_part MX0_part 2 := ⟨⟨⟨cn1.1, cn1.2.1, dn11⟩, cn1.2.2, rfl, Nat.le_of_ble_eq_true rfl⟩, ci1, (gw3 89 rfl rfl), (gw3 88 rfl rfl)⟩
def MX0_waysByRows : Mt := (yX0_waysByRows.cls, cX0_waysByRows, 9, (some .int))
theorem mX0_waysByRows : MV yX0_waysByRows MX0_waysByRows 3 := ⟨⟨⟨cn1.1, cn1.2.1, dn15⟩, cn1.2.2, rfl, Nat.le_of_ble_eq_true rfl⟩, ci1, (gw3 94 rfl rfl), (gw3 93 rfl rfl), (gw0 16 rfl rfl)⟩
def MX0_openPlaces : Mt := (yX0_openPlaces.cls, cX0_openPlaces, 4, (some .int))
theorem mX0_openPlaces : MV yX0_openPlaces MX0_openPlaces 1 := ⟨⟨⟨cn1.1, cn1.2.1, dn5⟩, cn1.2.2, rfl, Nat.le_of_ble_eq_true rfl⟩, ci1, (gw3 98 rfl rfl), (gw3 97 rfl rfl), (gw0 17 rfl rfl)⟩
def MX0_unreadyPlaces : Mt := (yX0_unreadyPlaces.cls, cX0_unreadyPlaces, 5, (some .int))
theorem mX0_unreadyPlaces : MV yX0_unreadyPlaces MX0_unreadyPlaces 1 := ⟨⟨⟨cn1.1, cn1.2.1, dn5⟩, cn1.2.2, rfl, Nat.le_of_ble_eq_true rfl⟩, ci1, (gw3 102 rfl rfl), (gw3 101 rfl rfl), (gw0 18 rfl rfl)⟩
def MX0_loadsFit : Mt := (yX0_loadsFit.cls, cX0_loadsFit, 6, (some .boolean))
theorem mX0_loadsFit : MV yX0_loadsFit MX0_loadsFit 2 := ⟨⟨⟨cn1.1, cn1.2.1, dn14⟩, cn1.2.2, rfl, Nat.le_of_ble_eq_true rfl⟩, ci1, (gw3 107 rfl rfl), (gw3 106 rfl rfl), (gw0 19 rfl rfl)⟩
def MX0_joined : Mt := (yX0_joined.cls, cX0_joined, 6, (some .int))
theorem mX0_joined : MV yX0_joined MX0_joined 2 := ⟨⟨⟨cn1.1, cn1.2.1, dn11⟩, cn1.2.2, rfl, Nat.le_of_ble_eq_true rfl⟩, ci1, (gw3 111 rfl rfl), (gw3 110 rfl rfl), (gw0 20 rfl rfl)⟩
def MX10_made : Mt := (yX10_made.cls, cX10_made, 5, (some .int))
theorem mX10_made : MV yX10_made MX10_made 3 := ⟨⟨⟨cn0.1, cn0.2.1, dn15⟩, cn0.2.2, rfl, Nat.le_of_ble_eq_true rfl⟩, ci0, (gw3 115 rfl rfl), (gw3 113 rfl rfl), (gw3 114 rfl rfl)⟩
def MX0_fillLeast : Mt := (yX0_fillLeast.cls, cX0_fillLeast, 6, none)
theorem mX0_fillLeast : MV yX0_fillLeast MX0_fillLeast 1 := ⟨⟨⟨cn1.1, cn1.2.1, dn33⟩, cn1.2.2, rfl, Nat.le_of_ble_eq_true rfl⟩, ci1, (gw3 119 rfl rfl), (gw3 117 rfl rfl), (gw3 118 rfl rfl)⟩
def MX10_blocks : Mt := (yX10_blocks.cls, cX10_blocks, 5, (some .int))
theorem mX10_blocks : MV yX10_blocks MX10_blocks 3 := ⟨⟨⟨cn0.1, cn0.2.1, dn30⟩, cn0.2.2, rfl, Nat.le_of_ble_eq_true rfl⟩, ci0, (gw3 125 rfl rfl), (gw3 123 rfl rfl), (gw3 124 rfl rfl)⟩
def MX10_kindIsTold : Mt := (yX10_kindIsTold.cls, cX10_kindIsTold, 2, (some .boolean))
theorem mX10_kindIsTold : MS yX10_kindIsTold MX10_kindIsTold 2 := ⟨⟨⟨cn0.1, cn0.2.1, dn14⟩, cn0.2.2, rfl, Nat.le_of_ble_eq_true rfl⟩, ci0, (gw3 128 rfl rfl), (gw3 127 rfl rfl)⟩
def MX1_areTold : Mt := (yX1_areTold.cls, cX1_areTold, 4, (some .boolean))
theorem mX1_areTold : MS yX1_areTold MX1_areTold 1 := ⟨⟨⟨cn2.1, cn2.2.1, dn28⟩, cn2.2.2, rfl, Nat.le_of_ble_eq_true rfl⟩, ci2, (gw3 131 rfl rfl), (gw3 130 rfl rfl)⟩
def MX1_size : Mt := (yX1_size.cls, cX1_size, 3, (some .int))
theorem mX1_size : MS yX1_size MX1_size 2 := ⟨⟨⟨cn2.1, cn2.2.1, dn29⟩, cn2.2.2, rfl, Nat.le_of_ble_eq_true rfl⟩, ci2, (gw3 134 rfl rfl), (gw3 133 rfl rfl)⟩
def MX1_worst : Mt := (yX1_worst.cls, cX1_worst, 4, (some .int))
theorem mX1_worst : MS yX1_worst MX1_worst 3 := ⟨⟨⟨cn2.1, cn2.2.1, dn30⟩, cn2.2.2, rfl, Nat.le_of_ble_eq_true rfl⟩, ci2, (gw3 137 rfl rfl), (gw3 136 rfl rfl)⟩
def MX1_skipWorst : Mt := (yX1_skipWorst.cls, cX1_skipWorst, 7, (some .int))
theorem mX1_skipWorst : MS yX1_skipWorst MX1_skipWorst 2 := ⟨⟨⟨cn2.1, cn2.2.1, dn29⟩, cn2.2.2, rfl, Nat.le_of_ble_eq_true rfl⟩, ci2, (gw3 140 rfl rfl), (gw3 139 rfl rfl)⟩
def MX1_choiceWorst : Mt := (yX1_choiceWorst.cls, cX1_choiceWorst, 4, (some .int))
theorem mX1_choiceWorst : MS yX1_choiceWorst MX1_choiceWorst 1 := ⟨⟨⟨cn2.1, cn2.2.1, dn26⟩, cn2.2.2, rfl, Nat.le_of_ble_eq_true rfl⟩, ci2, (gw3 144 rfl rfl), (gw3 143 rfl rfl)⟩
def MX10_sizes : Mt := (yX10_sizes.cls, cX10_sizes, 7, (some .long))
theorem mX10_sizes : MV yX10_sizes MX10_sizes 4 := ⟨⟨⟨cn0.1, cn0.2.1, dn20⟩, cn0.2.2, rfl, Nat.le_of_ble_eq_true rfl⟩, ci0, (gw3 148 rfl rfl), (gw3 146 rfl rfl), (gw3 147 rfl rfl)⟩
def MX1_skipFigures : Mt := (yX1_skipFigures.cls, cX1_skipFigures, 7, (some .long))
theorem mX1_skipFigures : MV yX1_skipFigures MX1_skipFigures 2 := ⟨⟨⟨cn2.1, cn2.2.1, dn12⟩, cn2.2.2, rfl, Nat.le_of_ble_eq_true rfl⟩, ci2, (gw3 152 rfl rfl), (gw3 150 rfl rfl), (gw3 151 rfl rfl)⟩
def MX1_fewestSkipBlocks : Mt := (yX1_fewestSkipBlocks.cls, cX1_fewestSkipBlocks, 4, (some .int))
theorem mX1_fewestSkipBlocks : MV yX1_fewestSkipBlocks MX1_fewestSkipBlocks 2 := ⟨⟨⟨cn2.1, cn2.2.1, dn11⟩, cn2.2.2, rfl, Nat.le_of_ble_eq_true rfl⟩, ci2, (gw3 156 rfl rfl), (gw3 155 rfl rfl), (gw0 21 rfl rfl)⟩
def MX1_allowNoBlocks : Mt := (yX1_allowNoBlocks.cls, cX1_allowNoBlocks, 3, none)
theorem mX1_allowNoBlocks : MV yX1_allowNoBlocks MX1_allowNoBlocks 1 := ⟨⟨⟨cn2.1, cn2.2.1, dn9⟩, cn2.2.2, rfl, Nat.le_of_ble_eq_true rfl⟩, ci2, (gw3 160 rfl rfl), (gw3 159 rfl rfl), (gw0 22 rfl rfl)⟩
def MX1_allowBlocks : Mt := (yX1_allowBlocks.cls, cX1_allowBlocks, 8, none)
theorem mX1_allowBlocks : MV yX1_allowBlocks MX1_allowBlocks 2 := ⟨⟨⟨cn2.1, cn2.2.1, dn13⟩, cn2.2.2, rfl, Nat.le_of_ble_eq_true rfl⟩, ci2, (gw3 165 rfl rfl), (gw3 164 rfl rfl), (gw0 23 rfl rfl)⟩
def MX1_greatestSize : Mt := (yX1_greatestSize.cls, cX1_greatestSize, 2, (some .int))
theorem mX1_greatestSize : MV yX1_greatestSize MX1_greatestSize 1 := ⟨⟨⟨cn2.1, cn2.2.1, dn5⟩, cn2.2.2, rfl, Nat.le_of_ble_eq_true rfl⟩, ci2, (gw3 169 rfl rfl), (gw3 168 rfl rfl), (gw0 24 rfl rfl)⟩
def MX1_wayAllowed : Mt := (yX1_wayAllowed.cls, cX1_wayAllowed, 3, (some .int))
theorem mX1_wayAllowed : MV yX1_wayAllowed MX1_wayAllowed 2 := ⟨⟨⟨cn2.1, cn2.2.1, dn11⟩, cn2.2.2, rfl, Nat.le_of_ble_eq_true rfl⟩, ci2, (gw3 174 rfl rfl), (gw3 173 rfl rfl), (gw0 25 rfl rfl)⟩
def MX1_leastSkipFigures : Mt := (yX1_leastSkipFigures.cls, cX1_leastSkipFigures, 9, (some .long))
theorem mX1_leastSkipFigures : MV yX1_leastSkipFigures MX1_leastSkipFigures 2 := ⟨⟨⟨cn2.1, cn2.2.1, dn12⟩, cn2.2.2, rfl, Nat.le_of_ble_eq_true rfl⟩, ci2, (gw3 179 rfl rfl), (gw3 178 rfl rfl), (gw0 26 rfl rfl)⟩
def MX1_leastSkipSize : Mt := (yX1_leastSkipSize.cls, cX1_leastSkipSize, 6, (some .int))
theorem mX1_leastSkipSize : MV yX1_leastSkipSize MX1_leastSkipSize 3 := ⟨⟨⟨cn2.1, cn2.2.1, dn15⟩, cn2.2.2, rfl, Nat.le_of_ble_eq_true rfl⟩, ci2, (gw3 183 rfl rfl), (gw3 182 rfl rfl), (gw0 27 rfl rfl)⟩
def MX1_choiceFigures : Mt := (yX1_choiceFigures.cls, cX1_choiceFigures, 3, (some .long))
theorem mX1_choiceFigures : MS yX1_choiceFigures MX1_choiceFigures 1 := ⟨⟨⟨cn2.1, cn2.2.1, dn6⟩, cn2.2.2, rfl, Nat.le_of_ble_eq_true rfl⟩, ci2, (gw3 186 rfl rfl), (gw3 185 rfl rfl)⟩
def MX1_choicePlaces : Mt := (yX1_choicePlaces.cls, cX1_choicePlaces, 6, (some .int))
theorem mX1_choicePlaces : MS yX1_choicePlaces MX1_choicePlaces 3 := ⟨⟨⟨cn2.1, cn2.2.1, dn15⟩, cn2.2.2, rfl, Nat.le_of_ble_eq_true rfl⟩, ci2, (gw3 189 rfl rfl), (gw3 188 rfl rfl)⟩
def MX1_leastChoiceFigures : Mt := (yX1_leastChoiceFigures.cls, cX1_leastChoiceFigures, 8, (some .long))
theorem mX1_leastChoiceFigures : MS yX1_leastChoiceFigures MX1_leastChoiceFigures 3 := ⟨⟨⟨cn2.1, cn2.2.1, dn16⟩, cn2.2.2, rfl, Nat.le_of_ble_eq_true rfl⟩, ci2, (gw3 192 rfl rfl), (gw3 191 rfl rfl)⟩
def MX10_run : Mt := (yX10_run.cls, cX10_run, 8, (some .int))
theorem mX10_run : MV yX10_run MX10_run 3 := ⟨⟨⟨cn0.1, cn0.2.1, dn15⟩, cn0.2.2, rfl, Nat.le_of_ble_eq_true rfl⟩, ci0, (gw3 197 rfl rfl), (gw3 195 rfl rfl), (gw3 196 rfl rfl)⟩
def MX10_hasBits : Mt := (yX10_hasBits.cls, cX10_hasBits, 2, (some .boolean))
theorem mX10_hasBits : MS yX10_hasBits MX10_hasBits 2 := ⟨⟨⟨cn0.1, cn0.2.1, dn14⟩, cn0.2.2, rfl, Nat.le_of_ble_eq_true rfl⟩, ci0, (gw3 200 rfl rfl), (gw3 199 rfl rfl)⟩
def MX10_runs : Mt := (yX10_runs.cls, cX10_runs, 3, (some .long))
theorem mX10_runs : MV yX10_runs MX10_runs 2 := ⟨⟨⟨cn0.1, cn0.2.1, dn12⟩, cn0.2.2, rfl, Nat.le_of_ble_eq_true rfl⟩, ci0, (gw3 205 rfl rfl), (gw3 203 rfl rfl), (gw3 204 rfl rfl)⟩
def MX10_pairsRunningAtMost : Mt := (yX10_pairsRunningAtMost.cls, cX10_pairsRunningAtMost, 10, (some .long))
theorem mX10_pairsRunningAtMost : MV yX10_pairsRunningAtMost MX10_pairsRunningAtMost 2 := ⟨⟨⟨cn0.1, cn0.2.1, dn12⟩, cn0.2.2, rfl, Nat.le_of_ble_eq_true rfl⟩, ci0, (gw3 209 rfl rfl), (gw3 208 rfl rfl), (gw0 28 rfl rfl)⟩
def MX10_pairsInAll : Mt := (yX10_pairsInAll.cls, cX10_pairsInAll, 8, (some .long))
theorem mX10_pairsInAll : MV yX10_pairsInAll MX10_pairsInAll 0 := ⟨⟨⟨cn0.1, cn0.2.1, dn1⟩, cn0.2.2, rfl, Nat.le_of_ble_eq_true rfl⟩, ci0, (gw3 214 rfl rfl), (gw3 213 rfl rfl), (gw0 29 rfl rfl)⟩
def MX10_mean : Mt := (yX10_mean.cls, cX10_mean, 8, (some .long))
theorem mX10_mean : MV yX10_mean MX10_mean 2 := ⟨⟨⟨cn0.1, cn0.2.1, dn12⟩, cn0.2.2, rfl, Nat.le_of_ble_eq_true rfl⟩, ci0, (gw3 219 rfl rfl), (gw3 217 rfl rfl), (gw3 218 rfl rfl)⟩
def MX10_height : Mt := (yX10_height.cls, cX10_height, 4, (some .int))
theorem mX10_height : MV yX10_height MX10_height 2 := ⟨⟨⟨cn0.1, cn0.2.1, dn11⟩, cn0.2.2, rfl, Nat.le_of_ble_eq_true rfl⟩, ci0, (gw3 223 rfl rfl), (gw3 221 rfl rfl), (gw3 222 rfl rfl)⟩
def MX3_heightOf : Mt := (yX3_heightOf.cls, cX3_heightOf, 2, (some .int))
theorem mX3_heightOf : MV yX3_heightOf MX3_heightOf 1 := ⟨⟨⟨cn4.1, cn4.2.1, dn5⟩, cn4.2.2, rfl, Nat.le_of_ble_eq_true rfl⟩, ci4, (gw3 227 rfl rfl), (gw3 225 rfl rfl), (gw3 226 rfl rfl)⟩
def MX3_setHeight : Mt := (yX3_setHeight.cls, cX3_setHeight, 3, none)
theorem mX3_setHeight : MV yX3_setHeight MX3_setHeight 2 := ⟨⟨⟨cn4.1, cn4.2.1, dn13⟩, cn4.2.2, rfl, Nat.le_of_ble_eq_true rfl⟩, ci4, (gw3 232 rfl rfl), (gw3 230 rfl rfl), (gw3 231 rfl rfl)⟩
def MX10_product : Mt := (yX10_product.cls, cX10_product, 5, (some .int))
theorem mX10_product : MV yX10_product MX10_product 2 := ⟨⟨⟨cn0.1, cn0.2.1, dn11⟩, cn0.2.2, rfl, Nat.le_of_ble_eq_true rfl⟩, ci0, (gw3 237 rfl rfl), (gw3 235 rfl rfl), (gw3 236 rfl rfl)⟩
def MX3_clear : Mt := (yX3_clear.cls, cX3_clear, 2, none)
theorem mX3_clear : MV yX3_clear MX3_clear 0 := ⟨⟨⟨cn4.1, cn4.2.1, dn3⟩, cn4.2.2, rfl, Nat.le_of_ble_eq_true rfl⟩, ci4, (gw4 1 rfl rfl), (gw3 239 rfl rfl), (gw4 0 rfl rfl)⟩
def MX3_greatest : Mt := (yX3_greatest.cls, cX3_greatest, 6, (some .int))
theorem mX3_greatest : MV yX3_greatest MX3_greatest 0 := ⟨⟨⟨cn4.1, cn4.2.1, dn0⟩, cn4.2.2, rfl, Nat.le_of_ble_eq_true rfl⟩, ci4, (gw4 5 rfl rfl), (gw4 3 rfl rfl), (gw4 4 rfl rfl)⟩
def MX10_down : Mt := (yX10_down.cls, cX10_down, 2, (some .int))
theorem mX10_down : MV yX10_down MX10_down 1 := ⟨⟨⟨cn0.1, cn0.2.1, dn5⟩, cn0.2.2, rfl, Nat.le_of_ble_eq_true rfl⟩, ci0, (gw4 10 rfl rfl), (gw4 8 rfl rfl), (gw4 9 rfl rfl)⟩
def MX3_done : Mt := (yX3_done.cls, cX3_done, 1, (some .boolean))
theorem mX3_done : MV yX3_done MX3_done 0 := ⟨⟨⟨cn4.1, cn4.2.1, dn4⟩, cn4.2.2, rfl, Nat.le_of_ble_eq_true rfl⟩, ci4, (gw4 14 rfl rfl), (gw4 12 rfl rfl), (gw4 13 rfl rfl)⟩
def MX3_clearTallies : Mt := (yX3_clearTallies.cls, cX3_clearTallies, 1, none)
theorem mX3_clearTallies : MV yX3_clearTallies MX3_clearTallies 0 := ⟨⟨⟨cn4.1, cn4.2.1, dn3⟩, cn4.2.2, rfl, Nat.le_of_ble_eq_true rfl⟩, ci4, (gw4 19 rfl rfl), (gw4 17 rfl rfl), (gw4 18 rfl rfl)⟩
def MX3_bringDown : Mt := (yX3_bringDown.cls, cX3_bringDown, 2, none)
theorem mX3_bringDown : MV yX3_bringDown MX3_bringDown 1 := ⟨⟨⟨cn4.1, cn4.2.1, dn9⟩, cn4.2.2, rfl, Nat.le_of_ble_eq_true rfl⟩, ci4, (gw4 23 rfl rfl), (gw4 21 rfl rfl), (gw4 22 rfl rfl)⟩
def MX3_bringDownAtOnce : Mt := (yX3_bringDownAtOnce.cls, cX3_bringDownAtOnce, 6, none)
theorem mX3_bringDownAtOnce : MV yX3_bringDownAtOnce MX3_bringDownAtOnce 0 := ⟨⟨⟨cn4.1, cn4.2.1, dn3⟩, cn4.2.2, rfl, Nat.le_of_ble_eq_true rfl⟩, ci4, (gw4 27 rfl rfl), (gw4 26 rfl rfl), (gw0 30 rfl rfl)⟩
def MX3_bringDownLate : Mt := (yX3_bringDownLate.cls, cX3_bringDownLate, 5, none)
theorem mX3_bringDownLate : MV yX3_bringDownLate MX3_bringDownLate 0 := ⟨⟨⟨cn4.1, cn4.2.1, dn3⟩, cn4.2.2, rfl, Nat.le_of_ble_eq_true rfl⟩, ci4, (gw4 31 rfl rfl), (gw4 30 rfl rfl), (gw0 31 rfl rfl)⟩
def MX3_goal : Mt := (yX3_goal.cls, cX3_goal, 4, (some .int))
theorem mX3_goal : MV yX3_goal MX3_goal 0 := ⟨⟨⟨cn4.1, cn4.2.1, dn0⟩, cn4.2.2, rfl, Nat.le_of_ble_eq_true rfl⟩, ci4, (gw4 35 rfl rfl), (gw4 34 rfl rfl), (gw0 32 rfl rfl)⟩
def MX10_downs : Mt := (yX10_downs.cls, cX10_downs, 4, (some .int))
theorem mX10_downs : MV yX10_downs MX10_downs 2 := ⟨⟨⟨cn0.1, cn0.2.1, dn11⟩, cn0.2.2, rfl, Nat.le_of_ble_eq_true rfl⟩, ci0, (gw4 39 rfl rfl), (gw4 37 rfl rfl), (gw4 38 rfl rfl)⟩
def MX3_copy : Mt := (yX3_copy.cls, cX3_copy, 3, none)
theorem mX3_copy : MV yX3_copy MX3_copy 1 := ⟨⟨⟨cn4.1, cn4.2.1, dn32⟩, cn4.2.2, rfl, Nat.le_of_ble_eq_true rfl⟩, ci4, (gw4 43 rfl rfl), (gw4 41 rfl rfl), (gw4 42 rfl rfl)⟩
def MX10_heap : Mt := (yX10_heap.cls, cX10_heap, 2, (some .int))
theorem mX10_heap : MV yX10_heap MX10_heap 1 := ⟨⟨⟨cn0.1, cn0.2.1, dn5⟩, cn0.2.2, rfl, Nat.le_of_ble_eq_true rfl⟩, ci0, (gw4 48 rfl rfl), (gw4 46 rfl rfl), (gw4 47 rfl rfl)⟩
def MX3_allBits : Mt := (yX3_allBits.cls, cX3_allBits, 6, (some .int))
theorem mX3_allBits : MV yX3_allBits MX3_allBits 0 := ⟨⟨⟨cn4.1, cn4.2.1, dn0⟩, cn4.2.2, rfl, Nat.le_of_ble_eq_true rfl⟩, ci4, (gw4 52 rfl rfl), (gw4 50 rfl rfl), (gw4 51 rfl rfl)⟩
def MX3_filled : Mt := (yX3_filled.cls, cX3_filled, 6, (some .int))
theorem mX3_filled : MV yX3_filled MX3_filled 0 := ⟨⟨⟨cn4.1, cn4.2.1, dn0⟩, cn4.2.2, rfl, Nat.le_of_ble_eq_true rfl⟩, ci4, (gw4 56 rfl rfl), (gw4 54 rfl rfl), (gw4 55 rfl rfl)⟩
def MX10_digit : Mt := (yX10_digit.cls, cX10_digit, 3, (some .int))
theorem mX10_digit : MV yX10_digit MX10_digit 2 := ⟨⟨⟨cn0.1, cn0.2.1, dn11⟩, cn0.2.2, rfl, Nat.le_of_ble_eq_true rfl⟩, ci0, (gw4 60 rfl rfl), (gw4 58 rfl rfl), (gw4 59 rfl rfl)⟩
def MX10_digitByFours : Mt := (yX10_digitByFours.cls, cX10_digitByFours, 3, (some .int))
theorem mX10_digitByFours : MS yX10_digitByFours MX10_digitByFours 2 := ⟨⟨⟨cn0.1, cn0.2.1, dn11⟩, cn0.2.2, rfl, Nat.le_of_ble_eq_true rfl⟩, ci0, (gw4 64 rfl rfl), (gw4 63 rfl rfl)⟩
def MX10_times : Mt := (yX10_times.cls, cX10_times, 6, (some .long))
theorem mX10_times : MV yX10_times MX10_times 4 := ⟨⟨⟨cn0.1, cn0.2.1, dn20⟩, cn0.2.2, rfl, Nat.le_of_ble_eq_true rfl⟩, ci0, (gw4 68 rfl rfl), (gw4 66 rfl rfl), (gw4 67 rfl rfl)⟩
def MX10_digitsNotZero : Mt := (yX10_digitsNotZero.cls, cX10_digitsNotZero, 3, (some .int))
theorem mX10_digitsNotZero : MS yX10_digitsNotZero MX10_digitsNotZero 1 := ⟨⟨⟨cn0.1, cn0.2.1, dn5⟩, cn0.2.2, rfl, Nat.le_of_ble_eq_true rfl⟩, ci0, (gw4 71 rfl rfl), (gw4 70 rfl rfl)⟩
def MX10_productByDigits : Mt := (yX10_productByDigits.cls, cX10_productByDigits, 5, (some .long))
theorem mX10_productByDigits : MS yX10_productByDigits MX10_productByDigits 2 := ⟨⟨⟨cn0.1, cn0.2.1, dn12⟩, cn0.2.2, rfl, Nat.le_of_ble_eq_true rfl⟩, ci0, (gw4 74 rfl rfl), (gw4 73 rfl rfl)⟩
def MX10_sheet : Mt := (yX10_sheet.cls, cX10_sheet, 5, (some .int))
theorem mX10_sheet : MV yX10_sheet MX10_sheet 3 := ⟨⟨⟨cn0.1, cn0.2.1, dn15⟩, cn0.2.2, rfl, Nat.le_of_ble_eq_true rfl⟩, ci0, (gw4 78 rfl rfl), (gw4 76 rfl rfl), (gw4 77 rfl rfl)⟩
def MX10_sheetNumbered : Mt := (yX10_sheetNumbered.cls, cX10_sheetNumbered, 2, (some (.object "CarryNets$Sheet")))
theorem mX10_sheetNumbered : MV yX10_sheetNumbered MX10_sheetNumbered 1 := ⟨⟨⟨cn0.1, cn0.2.1, dn8⟩, cn0.2.2, rfl, Nat.le_of_ble_eq_true rfl⟩, ci0, (gw4 82 rfl rfl), (gw4 81 rfl rfl), (gw0 33 rfl rfl)⟩
def MX7_renew : Mt := (yX7_renew.cls, cX7_renew, 4, none)
theorem mX7_renew : MV yX7_renew MX7_renew 2 := ⟨⟨⟨cn8.1, cn8.2.1, dn13⟩, cn8.2.2, rfl, Nat.le_of_ble_eq_true rfl⟩, ci8, (gw4 86 rfl rfl), (gw4 84 rfl rfl), (gw4 85 rfl rfl)⟩
def MX10_lay : Mt := (yX10_lay.cls, cX10_lay, 5, (some .int))
theorem mX10_lay : MV yX10_lay MX10_lay 3 := ⟨⟨⟨cn0.1, cn0.2.1, dn15⟩, cn0.2.2, rfl, Nat.le_of_ble_eq_true rfl⟩, ci0, (gw4 90 rfl rfl), (gw4 88 rfl rfl), (gw4 89 rfl rfl)⟩
def MX7_isNothing : Mt := (yX7_isNothing.cls, cX7_isNothing, 1, (some .boolean))
theorem mX7_isNothing : MV yX7_isNothing MX7_isNothing 0 := ⟨⟨⟨cn8.1, cn8.2.1, dn4⟩, cn8.2.2, rfl, Nat.le_of_ble_eq_true rfl⟩, ci8, (gw4 94 rfl rfl), (gw4 92 rfl rfl), (gw4 93 rfl rfl)⟩
def MX7_hasCell : Mt := (yX7_hasCell.cls, cX7_hasCell, 2, (some .boolean))
theorem mX7_hasCell : MV yX7_hasCell MX7_hasCell 1 := ⟨⟨⟨cn8.1, cn8.2.1, dn10⟩, cn8.2.2, rfl, Nat.le_of_ble_eq_true rfl⟩, ci8, (gw4 98 rfl rfl), (gw4 96 rfl rfl), (gw4 97 rfl rfl)⟩
def MX7_write : Mt := (yX7_write.cls, cX7_write, 3, none)
theorem mX7_write : MV yX7_write MX7_write 2 := ⟨⟨⟨cn8.1, cn8.2.1, dn13⟩, cn8.2.2, rfl, Nat.le_of_ble_eq_true rfl⟩, ci8, (gw4 102 rfl rfl), (gw4 100 rfl rfl), (gw4 101 rfl rfl)⟩
def MX10_heights : Mt := (yX10_heights.cls, cX10_heights, 8, (some .int))
theorem mX10_heights : MV yX10_heights MX10_heights 4 := ⟨⟨⟨cn0.1, cn0.2.1, dn19⟩, cn0.2.2, rfl, Nat.le_of_ble_eq_true rfl⟩, ci0, (gw4 107 rfl rfl), (gw4 105 rfl rfl), (gw4 106 rfl rfl)⟩
def MX7_refusal : Mt := (yX7_refusal.cls, cX7_refusal, 5, (some .int))
theorem mX7_refusal : MV yX7_refusal MX7_refusal 3 := ⟨⟨⟨cn8.1, cn8.2.1, dn15⟩, cn8.2.2, rfl, Nat.le_of_ble_eq_true rfl⟩, ci8, (gw4 111 rfl rfl), (gw4 109 rfl rfl), (gw4 110 rfl rfl)⟩
def MX7_read : Mt := (yX7_read.cls, cX7_read, 2, (some .int))
theorem mX7_read : MV yX7_read MX7_read 1 := ⟨⟨⟨cn8.1, cn8.2.1, dn5⟩, cn8.2.2, rfl, Nat.le_of_ble_eq_true rfl⟩, ci8, (gw4 117 rfl rfl), (gw4 115 rfl rfl), (gw4 116 rfl rfl)⟩
def MX10_count : Mt := (yX10_count.cls, cX10_count, 2, (some .int))
theorem mX10_count : MV yX10_count MX10_count 1 := ⟨⟨⟨cn0.1, cn0.2.1, dn5⟩, cn0.2.2, rfl, Nat.le_of_ble_eq_true rfl⟩, ci0, (gw4 123 rfl rfl), (gw4 121 rfl rfl), (gw4 122 rfl rfl)⟩
def MX10_cellsOfFirstSheet : Mt := (yX10_cellsOfFirstSheet.cls, cX10_cellsOfFirstSheet, 2, (some .int))
theorem mX10_cellsOfFirstSheet : MV yX10_cellsOfFirstSheet MX10_cellsOfFirstSheet 0 := ⟨⟨⟨cn0.1, cn0.2.1, dn0⟩, cn0.2.2, rfl, Nat.le_of_ble_eq_true rfl⟩, ci0, (gw4 127 rfl rfl), (gw4 126 rfl rfl), (gw0 34 rfl rfl)⟩
def MX11_init : Mt := (yX11_init.cls, cX11_init, 2, none)
def MX11_feed : Mt := (yX11_feed.cls, cX11_feed, 4, (some .int))
theorem mX11_feed : MV yX11_feed MX11_feed 1 := ⟨⟨⟨cn11.1, cn11.2.1, dn26⟩, cn11.2.2, rfl, Nat.le_of_ble_eq_true rfl⟩, ci11, (gw5 13 rfl rfl), (gw5 11 rfl rfl), (gw5 12 rfl rfl)⟩
def MX11_end : Mt := (yX11_end.cls, cX11_end, 3, (some .int))
theorem mX11_end : MV yX11_end MX11_end 1 := ⟨⟨⟨cn11.1, cn11.2.1, dn5⟩, cn11.2.2, rfl, Nat.le_of_ble_eq_true rfl⟩, ci11, (gw5 18 rfl rfl), (gw5 16 rfl rfl), (gw5 17 rfl rfl)⟩
def MX11_in : Mt := (yX11_in.cls, cX11_in, 6, (some .boolean))
theorem mX11_in : MS yX11_in MX11_in 3 := ⟨⟨⟨cn11.1, cn11.2.1, dn31⟩, cn11.2.2, rfl, Nat.le_of_ble_eq_true rfl⟩, ci11, (gw5 21 rfl rfl), (gw5 20 rfl rfl)⟩
def MX11_text : Mt := (yX11_text.cls, cX11_text, 5, (some .int))
theorem mX11_text : MV yX11_text MX11_text 0 := ⟨⟨⟨cn11.1, cn11.2.1, dn0⟩, cn11.2.2, rfl, Nat.le_of_ble_eq_true rfl⟩, ci11, (gw5 25 rfl rfl), (gw5 23 rfl rfl), (gw5 24 rfl rfl)⟩
def MX11_begins : Mt := (yX11_begins.cls, cX11_begins, 2, none)
theorem mX11_begins : MV yX11_begins MX11_begins 0 := ⟨⟨⟨cn11.1, cn11.2.1, dn3⟩, cn11.2.2, rfl, Nat.le_of_ble_eq_true rfl⟩, ci11, (gw5 29 rfl rfl), (gw5 28 rfl rfl), (gw0 35 rfl rfl)⟩
def MX11_next : Mt := (yX11_next.cls, cX11_next, 2, none)
theorem mX11_next : MV yX11_next MX11_next 0 := ⟨⟨⟨cn11.1, cn11.2.1, dn3⟩, cn11.2.2, rfl, Nat.le_of_ble_eq_true rfl⟩, ci11, (gw5 33 rfl rfl), (gw5 32 rfl rfl), (gw0 36 rfl rfl)⟩
def MX11_look : Mt := (yX11_look.cls, cX11_look, 2, (some .int))
theorem mX11_look : MV yX11_look MX11_look 1 := ⟨⟨⟨cn11.1, cn11.2.1, dn5⟩, cn11.2.2, rfl, Nat.le_of_ble_eq_true rfl⟩, ci11, (gw5 37 rfl rfl), (gw5 36 rfl rfl), (gw0 37 rfl rfl)⟩
def MX11_wants : Mt := (yX11_wants.cls, cX11_wants, 3, none)
theorem mX11_wants : MV yX11_wants MX11_wants 2 := ⟨⟨⟨cn11.1, cn11.2.1, dn38⟩, cn11.2.2, rfl, Nat.le_of_ble_eq_true rfl⟩, ci11, (gw5 43 rfl rfl), (gw5 42 rfl rfl), (gw0 38 rfl rfl)⟩
def MX11_isSign : Mt := (yX11_isSign.cls, cX11_isSign, 2, (some .boolean))
theorem mX11_isSign : MV yX11_isSign MX11_isSign 1 := ⟨⟨⟨cn11.1, cn11.2.1, dn10⟩, cn11.2.2, rfl, Nat.le_of_ble_eq_true rfl⟩, ci11, (gw5 49 rfl rfl), (gw5 48 rfl rfl), (gw0 39 rfl rfl)⟩
def MX11_readRow : Mt := (yX11_readRow.cls, cX11_readRow, 6, (some .long))
theorem mX11_readRow : MV yX11_readRow MX11_readRow 2 := ⟨⟨⟨cn11.1, cn11.2.1, dn12⟩, cn11.2.2, rfl, Nat.le_of_ble_eq_true rfl⟩, ci11, (gw5 53 rfl rfl), (gw5 52 rfl rfl), (gw0 40 rfl rfl)⟩
def MX11_joins : Mt := (yX11_joins.cls, cX11_joins, 4, none)
theorem mX11_joins : MV yX11_joins MX11_joins 1 := ⟨⟨⟨cn11.1, cn11.2.1, dn27⟩, cn11.2.2, rfl, Nat.le_of_ble_eq_true rfl⟩, ci11, (gw5 57 rfl rfl), (gw5 56 rfl rfl), (gw0 41 rfl rfl)⟩
def MX11_fault : Mt := (yX11_fault.cls, cX11_fault, 1, (some .int))
theorem mX11_fault : MV yX11_fault MX11_fault 0 := ⟨⟨⟨cn11.1, cn11.2.1, dn0⟩, cn11.2.2, rfl, Nat.le_of_ble_eq_true rfl⟩, ci11, (gw5 61 rfl rfl), (gw5 59 rfl rfl), (gw5 60 rfl rfl)⟩
def MX11_net : Mt := (yX11_net.cls, cX11_net, 4, (some .int))
theorem mX11_net : MV yX11_net MX11_net 2 := ⟨⟨⟨cn11.1, cn11.2.1, dn11⟩, cn11.2.2, rfl, Nat.le_of_ble_eq_true rfl⟩, ci11, (gw5 65 rfl rfl), (gw5 63 rfl rfl), (gw5 64 rfl rfl)⟩
def MX11_comes : Mt := (yX11_comes.cls, cX11_comes, 6, none)
theorem mX11_comes : MV yX11_comes MX11_comes 1 := ⟨⟨⟨cn11.1, cn11.2.1, dn27⟩, cn11.2.2, rfl, Nat.le_of_ble_eq_true rfl⟩, ci11, (gw5 70 rfl rfl), (gw5 69 rfl rfl), (gw0 42 rfl rfl)⟩
def MX11_upAndDown : Mt := (yX11_upAndDown.cls, cX11_upAndDown, 7, none)
theorem mX11_upAndDown : MV yX11_upAndDown MX11_upAndDown 1 := ⟨⟨⟨cn11.1, cn11.2.1, dn9⟩, cn11.2.2, rfl, Nat.le_of_ble_eq_true rfl⟩, ci11, (gw5 74 rfl rfl), (gw5 73 rfl rfl), (gw0 43 rfl rfl)⟩
def MX11_placesFrom : Mt := (yX11_placesFrom.cls, cX11_placesFrom, 8, (some .long))
theorem mX11_placesFrom : MV yX11_placesFrom MX11_placesFrom 3 := ⟨⟨⟨cn11.1, cn11.2.1, dn16⟩, cn11.2.2, rfl, Nat.le_of_ble_eq_true rfl⟩, ci11, (gw5 78 rfl rfl), (gw5 77 rfl rfl), (gw0 44 rfl rfl)⟩
def MX11_drop : Mt := (yX11_drop.cls, cX11_drop, 1, (some .int))
theorem mX11_drop : MV yX11_drop MX11_drop 0 := ⟨⟨⟨cn11.1, cn11.2.1, dn0⟩, cn11.2.2, rfl, Nat.le_of_ble_eq_true rfl⟩, ci11, (gw5 82 rfl rfl), (gw5 80 rfl rfl), (gw5 81 rfl rfl)⟩
def MX11_told : Mt := (yX11_told.cls, cX11_told, 11, (some .int))
theorem mX11_told : MV yX11_told MX11_told 2 := ⟨⟨⟨cn11.1, cn11.2.1, dn11⟩, cn11.2.2, rfl, Nat.le_of_ble_eq_true rfl⟩, ci11, (gw5 86 rfl rfl), (gw5 84 rfl rfl), (gw5 85 rfl rfl)⟩
def MX11_isNet : Mt := (yX11_isNet.cls, cX11_isNet, 2, (some .boolean))
theorem mX11_isNet : MV yX11_isNet MX11_isNet 1 := ⟨⟨⟨cn11.1, cn11.2.1, dn10⟩, cn11.2.2, rfl, Nat.le_of_ble_eq_true rfl⟩, ci11, (gw5 90 rfl rfl), (gw5 89 rfl rfl), (gw0 45 rfl rfl)⟩
def MX11_cellsOf : Mt := (yX11_cellsOf.cls, cX11_cellsOf, 3, (some .long))
theorem mX11_cellsOf : MV yX11_cellsOf MX11_cellsOf 2 := ⟨⟨⟨cn11.1, cn11.2.1, dn12⟩, cn11.2.2, rfl, Nat.le_of_ble_eq_true rfl⟩, ci11, (gw5 95 rfl rfl), (gw5 94 rfl rfl), (gw0 46 rfl rfl)⟩
def MX11_bits : Mt := (yX11_bits.cls, cX11_bits, 4, (some .int))
theorem mX11_bits : MS yX11_bits MX11_bits 1 := ⟨⟨⟨cn11.1, cn11.2.1, dn26⟩, cn11.2.2, rfl, Nat.le_of_ble_eq_true rfl⟩, ci11, (gw5 98 rfl rfl), (gw5 97 rfl rfl)⟩
def MX11_goesTo : Mt := (yX11_goesTo.cls, cX11_goesTo, 4, none)
theorem mX11_goesTo : MV yX11_goesTo MX11_goesTo 2 := ⟨⟨⟨cn11.1, cn11.2.1, dn13⟩, cn11.2.2, rfl, Nat.le_of_ble_eq_true rfl⟩, ci11, (gw5 103 rfl rfl), (gw5 102 rfl rfl), (gw0 47 rfl rfl)⟩
def MX11_findTakes : Mt := (yX11_findTakes.cls, cX11_findTakes, 4, none)
theorem mX11_findTakes : MV yX11_findTakes MX11_findTakes 2 := ⟨⟨⟨cn11.1, cn11.2.1, dn13⟩, cn11.2.2, rfl, Nat.le_of_ble_eq_true rfl⟩, ci11, (gw5 107 rfl rfl), (gw5 106 rfl rfl), (gw0 48 rfl rfl)⟩
def MX11_loadOf : Mt := (yX11_loadOf.cls, cX11_loadOf, 4, (some .int))
theorem mX11_loadOf : MV yX11_loadOf MX11_loadOf 1 := ⟨⟨⟨cn11.1, cn11.2.1, dn5⟩, cn11.2.2, rfl, Nat.le_of_ble_eq_true rfl⟩, ci11, (gw5 111 rfl rfl), (gw5 110 rfl rfl), (gw0 49 rfl rfl)⟩
def MX11_tracks : Mt := (yX11_tracks.cls, cX11_tracks, 5, (some .int))
theorem mX11_tracks : MV yX11_tracks MX11_tracks 0 := ⟨⟨⟨cn11.1, cn11.2.1, dn0⟩, cn11.2.2, rfl, Nat.le_of_ble_eq_true rfl⟩, ci11, (gw5 115 rfl rfl), (gw5 114 rfl rfl), (gw0 50 rfl rfl)⟩
def MX11_isWhole : Mt := (yX11_isWhole.cls, cX11_isWhole, 4, (some .boolean))
theorem mX11_isWhole : MV yX11_isWhole MX11_isWhole 1 := ⟨⟨⟨cn11.1, cn11.2.1, dn10⟩, cn11.2.2, rfl, Nat.le_of_ble_eq_true rfl⟩, ci11, (gw5 119 rfl rfl), (gw5 118 rfl rfl), (gw0 51 rfl rfl)⟩
def MX11_cell : Mt := (yX11_cell.cls, cX11_cell, 7, (some .int))
theorem mX11_cell : MV yX11_cell MX11_cell 4 := ⟨⟨⟨cn11.1, cn11.2.1, dn19⟩, cn11.2.2, rfl, Nat.le_of_ble_eq_true rfl⟩, ci11, (gw5 123 rfl rfl), (gw5 121 rfl rfl), (gw5 122 rfl rfl)⟩
def MX11_pace : Mt := (yX11_pace.cls, cX11_pace, 3, (some .int))
theorem mX11_pace : MV yX11_pace MX11_pace 2 := ⟨⟨⟨cn11.1, cn11.2.1, dn11⟩, cn11.2.2, rfl, Nat.le_of_ble_eq_true rfl⟩, ci11, (gw5 127 rfl rfl), (gw5 125 rfl rfl), (gw5 126 rfl rfl)⟩
def MX11_start : Mt := (yX11_start.cls, cX11_start, 4, (some .int))
theorem mX11_start : MV yX11_start MX11_start 2 := ⟨⟨⟨cn11.1, cn11.2.1, dn11⟩, cn11.2.2, rfl, Nat.le_of_ble_eq_true rfl⟩, ci11, (gw5 132 rfl rfl), (gw5 130 rfl rfl), (gw5 131 rfl rfl)⟩
def MX11_time : Mt := (yX11_time.cls, cX11_time, 7, (some .int))
theorem mX11_time : MV yX11_time MX11_time 2 := ⟨⟨⟨cn11.1, cn11.2.1, dn11⟩, cn11.2.2, rfl, Nat.le_of_ble_eq_true rfl⟩, ci11, (gw5 138 rfl rfl), (gw5 136 rfl rfl), (gw5 137 rfl rfl)⟩
def MX11_sum : Mt := (yX11_sum.cls, cX11_sum, 13, (some .long))
theorem mX11_sum : MV yX11_sum MX11_sum 5 := ⟨⟨⟨cn11.1, cn11.2.1, dn25⟩, cn11.2.2, rfl, Nat.le_of_ble_eq_true rfl⟩, ci11, (gw5 142 rfl rfl), (gw5 140 rfl rfl), (gw5 141 rfl rfl)⟩
def MX11_best : Mt := (yX11_best.cls, cX11_best, 6, (some .int))
theorem mX11_best : MV yX11_best MX11_best 4 := ⟨⟨⟨cn11.1, cn11.2.1, dn19⟩, cn11.2.2, rfl, Nat.le_of_ble_eq_true rfl⟩, ci11, (gw5 148 rfl rfl), (gw5 146 rfl rfl), (gw5 147 rfl rfl)⟩
def MX11_isBest : Mt := (yX11_isBest.cls, cX11_isBest, 3, (some .boolean))
theorem mX11_isBest : MS yX11_isBest MX11_isBest 3 := ⟨⟨⟨cn11.1, cn11.2.1, dn18⟩, cn11.2.2, rfl, Nat.le_of_ble_eq_true rfl⟩, ci11, (gw5 151 rfl rfl), (gw5 150 rfl rfl)⟩
def MX11_fills : Mt := (yX11_fills.cls, cX11_fills, 4, none)
theorem mX11_fills : MV yX11_fills MX11_fills 2 := ⟨⟨⟨cn11.1, cn11.2.1, dn13⟩, cn11.2.2, rfl, Nat.le_of_ble_eq_true rfl⟩, ci11, (gw5 157 rfl rfl), (gw5 156 rfl rfl), (gw0 52 rfl rfl)⟩
def MX11_fillsRow : Mt := (yX11_fillsRow.cls, cX11_fillsRow, 10, none)
theorem mX11_fillsRow : MV yX11_fillsRow MX11_fillsRow 3 := ⟨⟨⟨cn11.1, cn11.2.1, dn17⟩, cn11.2.2, rfl, Nat.le_of_ble_eq_true rfl⟩, ci11, (gw5 161 rfl rfl), (gw5 160 rfl rfl), (gw0 53 rfl rfl)⟩
def MX11_spansOf : Mt := (yX11_spansOf.cls, cX11_spansOf, 5, none)
theorem mX11_spansOf : MV yX11_spansOf MX11_spansOf 2 := ⟨⟨⟨cn11.1, cn11.2.1, dn13⟩, cn11.2.2, rfl, Nat.le_of_ble_eq_true rfl⟩, ci11, (gw5 165 rfl rfl), (gw5 164 rfl rfl), (gw0 54 rfl rfl)⟩
def MX11_behind : Mt := (yX11_behind.cls, cX11_behind, 9, (some .int))
theorem mX11_behind : MV yX11_behind MX11_behind 3 := ⟨⟨⟨cn11.1, cn11.2.1, dn15⟩, cn11.2.2, rfl, Nat.le_of_ble_eq_true rfl⟩, ci11, (gw5 169 rfl rfl), (gw5 168 rfl rfl), (gw0 55 rfl rfl)⟩
def MX11_few : Mt := (yX11_few.cls, cX11_few, 3, (some .int))
theorem mX11_few : MS yX11_few MX11_few 1 := ⟨⟨⟨cn11.1, cn11.2.1, dn5⟩, cn11.2.2, rfl, Nat.le_of_ble_eq_true rfl⟩, ci11, (gw5 172 rfl rfl), (gw5 171 rfl rfl)⟩
def MX11_firstState : Mt := (yX11_firstState.cls, cX11_firstState, 2, (some .int))
theorem mX11_firstState : MV yX11_firstState MX11_firstState 1 := ⟨⟨⟨cn11.1, cn11.2.1, dn5⟩, cn11.2.2, rfl, Nat.le_of_ble_eq_true rfl⟩, ci11, (gw5 176 rfl rfl), (gw5 175 rfl rfl), (gw0 56 rfl rfl)⟩
def MX11_made : Mt := (yX11_made.cls, cX11_made, 9, (some .int))
theorem mX11_made : MV yX11_made MX11_made 3 := ⟨⟨⟨cn11.1, cn11.2.1, dn15⟩, cn11.2.2, rfl, Nat.le_of_ble_eq_true rfl⟩, ci11, (gw5 180 rfl rfl), (gw5 178 rfl rfl), (gw5 179 rfl rfl)⟩
def MX11_blocks : Mt := (yX11_blocks.cls, cX11_blocks, 12, (some .int))
theorem mX11_blocks : MV yX11_blocks MX11_blocks 3 := ⟨⟨⟨cn11.1, cn11.2.1, dn30⟩, cn11.2.2, rfl, Nat.le_of_ble_eq_true rfl⟩, ci11, (gw5 184 rfl rfl), (gw5 182 rfl rfl), (gw5 183 rfl rfl)⟩
def MX11_sizes : Mt := (yX11_sizes.cls, cX11_sizes, 14, (some .long))
theorem mX11_sizes : MV yX11_sizes MX11_sizes 4 := ⟨⟨⟨cn11.1, cn11.2.1, dn20⟩, cn11.2.2, rfl, Nat.le_of_ble_eq_true rfl⟩, ci11, (gw5 190 rfl rfl), (gw5 188 rfl rfl), (gw5 189 rfl rfl)⟩
def MX11_least : Mt := (yX11_least.cls, cX11_least, 2, (some .int))
theorem mX11_least : MS yX11_least MX11_least 2 := ⟨⟨⟨cn11.1, cn11.2.1, dn11⟩, cn11.2.2, rfl, Nat.le_of_ble_eq_true rfl⟩, ci11, (gw5 193 rfl rfl), (gw5 192 rfl rfl)⟩
def MX11_fillsBelow : Mt := (yX11_fillsBelow.cls, cX11_fillsBelow, 11, none)
theorem mX11_fillsBelow : MV yX11_fillsBelow MX11_fillsBelow 4 := ⟨⟨⟨cn11.1, cn11.2.1, dn21⟩, cn11.2.2, rfl, Nat.le_of_ble_eq_true rfl⟩, ci11, (gw5 197 rfl rfl), (gw5 196 rfl rfl), (gw0 57 rfl rfl)⟩
def MX11_roomOf : Mt := (yX11_roomOf.cls, cX11_roomOf, 6, (some .int))
theorem mX11_roomOf : MS yX11_roomOf MX11_roomOf 6 := ⟨⟨⟨cn11.1, cn11.2.1, dn23⟩, cn11.2.2, rfl, Nat.le_of_ble_eq_true rfl⟩, ci11, (gw5 200 rfl rfl), (gw5 199 rfl rfl)⟩
def MX11_aboveThen : Mt := (yX11_aboveThen.cls, cX11_aboveThen, 6, (some .int))
theorem mX11_aboveThen : MS yX11_aboveThen MX11_aboveThen 5 := ⟨⟨⟨cn11.1, cn11.2.1, dn22⟩, cn11.2.2, rfl, Nat.le_of_ble_eq_true rfl⟩, ci11, (gw5 203 rfl rfl), (gw5 202 rfl rfl)⟩
def MX11_run : Mt := (yX11_run.cls, cX11_run, 8, (some .int))
theorem mX11_run : MV yX11_run MX11_run 3 := ⟨⟨⟨cn11.1, cn11.2.1, dn15⟩, cn11.2.2, rfl, Nat.le_of_ble_eq_true rfl⟩, ci11, (gw5 207 rfl rfl), (gw5 205 rfl rfl), (gw5 206 rfl rfl)⟩
def MX11_runs : Mt := (yX11_runs.cls, cX11_runs, 3, (some .long))
theorem mX11_runs : MV yX11_runs MX11_runs 2 := ⟨⟨⟨cn11.1, cn11.2.1, dn12⟩, cn11.2.2, rfl, Nat.le_of_ble_eq_true rfl⟩, ci11, (gw5 211 rfl rfl), (gw5 209 rfl rfl), (gw5 210 rfl rfl)⟩
def MX11_runsOf : Mt := (yX11_runsOf.cls, cX11_runsOf, 7, (some .long))
theorem mX11_runsOf : MV yX11_runsOf MX11_runsOf 2 := ⟨⟨⟨cn11.1, cn11.2.1, dn12⟩, cn11.2.2, rfl, Nat.le_of_ble_eq_true rfl⟩, ci11, (gw5 215 rfl rfl), (gw5 214 rfl rfl), (gw0 58 rfl rfl)⟩
def MX11_mean : Mt := (yX11_mean.cls, cX11_mean, 13, (some .long))
theorem mX11_mean : MV yX11_mean MX11_mean 2 := ⟨⟨⟨cn11.1, cn11.2.1, dn12⟩, cn11.2.2, rfl, Nat.le_of_ble_eq_true rfl⟩, ci11, (gw5 219 rfl rfl), (gw5 217 rfl rfl), (gw5 218 rfl rfl)⟩
def MX11_height : Mt := (yX11_height.cls, cX11_height, 4, (some .int))
theorem mX11_height : MV yX11_height MX11_height 2 := ⟨⟨⟨cn11.1, cn11.2.1, dn11⟩, cn11.2.2, rfl, Nat.le_of_ble_eq_true rfl⟩, ci11, (gw5 223 rfl rfl), (gw5 221 rfl rfl), (gw5 222 rfl rfl)⟩
def MX11_product : Mt := (yX11_product.cls, cX11_product, 5, (some .int))
theorem mX11_product : MV yX11_product MX11_product 2 := ⟨⟨⟨cn11.1, cn11.2.1, dn11⟩, cn11.2.2, rfl, Nat.le_of_ble_eq_true rfl⟩, ci11, (gw5 229 rfl rfl), (gw5 227 rfl rfl), (gw5 228 rfl rfl)⟩
def MX11_down : Mt := (yX11_down.cls, cX11_down, 3, (some .int))
theorem mX11_down : MV yX11_down MX11_down 1 := ⟨⟨⟨cn11.1, cn11.2.1, dn5⟩, cn11.2.2, rfl, Nat.le_of_ble_eq_true rfl⟩, ci11, (gw5 233 rfl rfl), (gw5 231 rfl rfl), (gw5 232 rfl rfl)⟩
def MX11_greatest : Mt := (yX11_greatest.cls, cX11_greatest, 3, (some .int))
theorem mX11_greatest : MS yX11_greatest MX11_greatest 1 := ⟨⟨⟨cn11.1, cn11.2.1, dn39⟩, cn11.2.2, rfl, Nat.le_of_ble_eq_true rfl⟩, ci11, (gw5 236 rfl rfl), (gw5 235 rfl rfl)⟩
def MX11_copies : Mt := (yX11_copies.cls, cX11_copies, 2, none)
theorem mX11_copies : MV yX11_copies MX11_copies 0 := ⟨⟨⟨cn11.1, cn11.2.1, dn3⟩, cn11.2.2, rfl, Nat.le_of_ble_eq_true rfl⟩, ci11, (gw6 0 rfl rfl), (gw5 239 rfl rfl), (gw0 59 rfl rfl)⟩
def MX11_rowDown : Mt := (yX11_rowDown.cls, cX11_rowDown, 8, none)
theorem mX11_rowDown : MV yX11_rowDown MX11_rowDown 1 := ⟨⟨⟨cn11.1, cn11.2.1, dn9⟩, cn11.2.2, rfl, Nat.le_of_ble_eq_true rfl⟩, ci11, (gw6 4 rfl rfl), (gw6 3 rfl rfl), (gw0 60 rfl rfl)⟩
def MX11_downs : Mt := (yX11_downs.cls, cX11_downs, 4, (some .int))
theorem mX11_downs : MV yX11_downs MX11_downs 2 := ⟨⟨⟨cn11.1, cn11.2.1, dn11⟩, cn11.2.2, rfl, Nat.le_of_ble_eq_true rfl⟩, ci11, (gw6 8 rfl rfl), (gw6 6 rfl rfl), (gw6 7 rfl rfl)⟩
def MX11_heap : Mt := (yX11_heap.cls, cX11_heap, 4, (some .int))
theorem mX11_heap : MV yX11_heap MX11_heap 1 := ⟨⟨⟨cn11.1, cn11.2.1, dn5⟩, cn11.2.2, rfl, Nat.le_of_ble_eq_true rfl⟩, ci11, (gw6 13 rfl rfl), (gw6 11 rfl rfl), (gw6 12 rfl rfl)⟩
def MX11_allBits : Mt := (yX11_allBits.cls, cX11_allBits, 3, (some .int))
theorem mX11_allBits : MV yX11_allBits MX11_allBits 0 := ⟨⟨⟨cn11.1, cn11.2.1, dn0⟩, cn11.2.2, rfl, Nat.le_of_ble_eq_true rfl⟩, ci11, (gw6 17 rfl rfl), (gw6 16 rfl rfl), (gw0 61 rfl rfl)⟩
def MX11_digit : Mt := (yX11_digit.cls, cX11_digit, 3, (some .int))
theorem mX11_digit : MV yX11_digit MX11_digit 2 := ⟨⟨⟨cn11.1, cn11.2.1, dn11⟩, cn11.2.2, rfl, Nat.le_of_ble_eq_true rfl⟩, ci11, (gw6 21 rfl rfl), (gw6 19 rfl rfl), (gw6 20 rfl rfl)⟩
def MX11_digitOf : Mt := (yX11_digitOf.cls, cX11_digitOf, 3, (some .int))
theorem mX11_digitOf : MS yX11_digitOf MX11_digitOf 2 := ⟨⟨⟨cn11.1, cn11.2.1, dn11⟩, cn11.2.2, rfl, Nat.le_of_ble_eq_true rfl⟩, ci11, (gw6 26 rfl rfl), (gw6 25 rfl rfl)⟩
def MX11_times : Mt := (yX11_times.cls, cX11_times, 8, (some .long))
theorem mX11_times : MV yX11_times MX11_times 4 := ⟨⟨⟨cn11.1, cn11.2.1, dn20⟩, cn11.2.2, rfl, Nat.le_of_ble_eq_true rfl⟩, ci11, (gw6 30 rfl rfl), (gw6 28 rfl rfl), (gw6 29 rfl rfl)⟩
def MX11_sheet : Mt := (yX11_sheet.cls, cX11_sheet, 5, (some .int))
theorem mX11_sheet : MV yX11_sheet MX11_sheet 3 := ⟨⟨⟨cn11.1, cn11.2.1, dn15⟩, cn11.2.2, rfl, Nat.le_of_ble_eq_true rfl⟩, ci11, (gw6 36 rfl rfl), (gw6 34 rfl rfl), (gw6 35 rfl rfl)⟩
def MX11_isSheet : Mt := (yX11_isSheet.cls, cX11_isSheet, 2, (some .boolean))
theorem mX11_isSheet : MS yX11_isSheet MX11_isSheet 2 := ⟨⟨⟨cn11.1, cn11.2.1, dn14⟩, cn11.2.2, rfl, Nat.le_of_ble_eq_true rfl⟩, ci11, (gw6 39 rfl rfl), (gw6 38 rfl rfl)⟩
def MX11_lay : Mt := (yX11_lay.cls, cX11_lay, 4, (some .int))
theorem mX11_lay : MV yX11_lay MX11_lay 3 := ⟨⟨⟨cn11.1, cn11.2.1, dn15⟩, cn11.2.2, rfl, Nat.le_of_ble_eq_true rfl⟩, ci11, (gw6 43 rfl rfl), (gw6 41 rfl rfl), (gw6 42 rfl rfl)⟩
def MX11_heights : Mt := (yX11_heights.cls, cX11_heights, 8, (some .int))
theorem mX11_heights : MV yX11_heights MX11_heights 4 := ⟨⟨⟨cn11.1, cn11.2.1, dn19⟩, cn11.2.2, rfl, Nat.le_of_ble_eq_true rfl⟩, ci11, (gw6 47 rfl rfl), (gw6 45 rfl rfl), (gw6 46 rfl rfl)⟩
def MX11_count : Mt := (yX11_count.cls, cX11_count, 2, (some .int))
theorem mX11_count : MV yX11_count MX11_count 1 := ⟨⟨⟨cn11.1, cn11.2.1, dn5⟩, cn11.2.2, rfl, Nat.le_of_ble_eq_true rfl⟩, ci11, (gw6 51 rfl rfl), (gw6 49 rfl rfl), (gw6 50 rfl rfl)⟩
end
section
def NC : Nat := 111
def kdL : List Nat := [9, 103, 8, 102, 7, 100, 100, 100, 4, 7, 100, 100, 100, 100, 2, 100, 100, 7, 100, 100, 100, 0, 100, 100, 1, 100, 101, 3, 100, 3, 100, 104, 5, 7, 100, 100, 100, 100, 5, 7, 100, 100, 100, 100, 5, 7, 100, 100, 100, 100, 5, 7, 100, 100, 100, 100, 5, 7, 100, 100, 100, 100, 5, 7, 100, 100, 100, 100, 5, 7, 100, 100, 100, 100, 5, 7, 100, 100, 100, 100, 6, 100, 6, 100, 6, 100, 6, 100, 10, 100, 100, 101, 100, 100, 100, 100, 100, 100, 100, 100, 100, 100, 100, 100, 101, 101, 100, 100, 100, 100, 100]
def kd (i : Nat) : Nat := kdL.getD i 999
def lnL : List Nat := [0, 8, 0, 240, 0, 32, 32, 32, 0, 0, 32, 32, 32, 32, 0, 32, 32, 0, 32, 32, 32, 0, 6, 6, 0, 429, 32, 0, 12, 0, 12, 4, 0, 0, 32, 32, 32, 32, 0, 0, 32, 32, 32, 32, 0, 0, 32, 32, 32, 32, 0, 0, 32, 32, 32, 32, 0, 0, 32, 32, 32, 32, 0, 0, 32, 32, 32, 32, 0, 0, 32, 32, 32, 32, 0, 0, 32, 32, 32, 32, 0, 60, 0, 60, 0, 60, 0, 60, 0, 8, 8, 256, 32, 32, 32, 240, 32, 32, 32, 35280, 35280, 7, 12, 1690, 33, 33, 12, 12, 4, 4, 240]
def ln (i : Nat) : Nat := lnL.getD i 0
def grL : List (List Nat) := [[1, 0, 2, 4, 8, 14, 21, 24, 26, 27, 29, 31], [32, 38, 44, 50, 56, 62, 68, 74], [0, 0, 3], [], [0, 5, 6, 7], [], [], [], [0, 0, 0, 0, 0, 9, 13], [0, 10, 11, 12], [], [], [], [], [0, 0, 15, 16, 17], [], [], [0, 18, 19, 20], [], [], [], [0, 0, 0, 0, 0, 22, 23], [], [], [25], [], [], [0, 0, 0, 28], [], [0, 0, 0, 30], [], [80, 82, 84, 86], [0, 0, 33, 37], [0, 34, 35, 36], [], [], [], [], [0, 0, 39, 43], [0, 40, 41, 42], [], [], [], [], [0, 0, 45, 49], [0, 46, 47, 48], [], [], [], [], [0, 0, 51, 55], [0, 52, 53, 54], [], [], [], [], [0, 0, 57, 61], [0, 58, 59, 60], [], [], [], [], [0, 0, 63, 67], [0, 64, 65, 66], [], [], [], [], [0, 0, 69, 73], [0, 70, 71, 72], [], [], [], [], [0, 0, 75, 79], [0, 76, 77, 78], [], [], [], [], [0, 0, 81], [], [0, 0, 83], [], [0, 0, 85], [], [0, 0, 87], [], [0, 89, 90, 91, 0, 0, 92, 93, 94, 95, 0, 0, 0, 0, 0, 0, 0, 96, 97, 98, 0, 0, 99, 100, 0, 101, 102, 103, 104, 105, 106, 107, 0, 0, 0, 108, 109, 110], [], [], [], [], [], [], [], [], [], [], [], [], [], [], [], [], [], [], [], [], [], []]
def gr (i k : Nat) : Nat := (grL.getD i []).getD k 0
def nF (c : Nat) : Nat := ([8, 3, 5, 4, 7, 4, 3, 4, 7, 12, 38] : List Nat).getD c 0
def rFL : List (List Nat) := [[5, 6], [0], [2, 3, 4], [3], [5, 6], [2, 3], [2], [1, 2, 3], [2], [0, 2, 3, 4, 5, 6, 7, 8, 9, 10, 11], [1, 2, 3, 6, 7, 8, 9, 17, 18, 19, 22, 23, 25, 26, 27, 28, 29, 30, 31, 35, 36, 37]]
def rF (c k : Nat) : Bool := (rFL.getD c []).contains k
/-! the fixed world: ids, contents σ, the words' context -/
abbrev St : Type := (Nat → Nat → Int32) × (Nat → Nat → Int64)
abbrev Cx : Type := va_G × (Nat → Nat) × (Nat → ClassId)
def cv (X : Cx) (v : Value) : Value := match v with
  | .ref i => .ref (X.2.1 i)
  | v => v
theorem cv_cat (X : Cx) (v : Value) : (cv X v).category = v.category := by cases v <;> rfl
def hE (X : Cx) (σ : St) (i : Nat) : va_E :=
  if kd i < 100 then .inr (kd i, (List.range (nF (kd i))).map (fun k => if rF (kd i) k = true then Value.ref (X.2.1 (gr i k)) else Value.int (σ.1 i k)))
  else if kd i = 100 then .inl (X.2.2 0, ln i, .inl (σ.1 i))
  else if kd i = 101 then .inl (X.2.2 1, ln i, .inr (.inl (σ.2 i)))
  else if kd i = 102 then .inl (X.2.2 2, ln i, .inl (σ.1 i))
  else .inl (X.2.2 (kd i - 100), ln i, .inr (.inr (.inr (.inr (fun k => some (X.2.1 (gr i k)))))))
def ws (X : Cx) (σ : St) : va_W := (List.range NC).map (fun i => (X.2.1 i, hE X σ i))
abbrev tys (X : Cx) : List (ClassId × FieldType) := [(X.2.2 0, .int), (X.2.2 1, .long), (X.2.2 2, .byte), (X.2.2 3, .object "CarryNets$Net"), (X.2.2 4, .object "CarryNets$Sheet")]
def sA (σ : St) (o : Nat) (g : Nat → Int32) : St := (fun i => if i = o then g else σ.1 i, σ.2)
def sJ (σ : St) (o : Nat) (g : Nat → Int64) : St := (σ.1, fun i => if i = o then g else σ.2 i)
theorem kd_lt {o c : Nat} (h : kd o = c) (hc : c < 999) : o < NC := by
  rcases Nat.lt_or_ge o NC with q | q
  · exact q
  · exfalso
    have h1 : kdL.length ≤ o := q
    have h2 : kd o = 999 := by unfold kd; rw [List.getD_eq_getElem?_getD, List.getElem?_eq_none h1]; rfl
    omega
theorem ws_at (X : Cx) (σ : St) {i : Nat} (h : i < NC) : (ws X σ)[i]? = some (X.2.1 i, hE X σ i) := by
  simp [ws, h]
theorem ws_len (X : Cx) (σ : St) : (ws X σ).length = NC := by simp [ws]
theorem ws_set (X : Cx) (σ σ' : St) {o : Nat} (ho : o < NC) {e : va_E} (he : hE X σ' o = e) (hn : ∀ i, i ≠ o → hE X σ' i = hE X σ i) : (ws X σ).set o (X.2.1 o, e) = ws X σ' := by
  subst he
  apply List.ext_getElem?
  intro i
  rw [List.getElem?_set]
  by_cases h : o = i
  · subst h
    rw [if_pos rfl, ws_len, if_pos ho, ws_at X σ' ho]
  · rw [if_neg h]
    rcases Nat.lt_or_ge i NC with q | q
    · rw [ws_at X σ q, ws_at X σ' q, hn i (fun e => h e.symm)]
    · rw [List.getElem?_eq_none (by rw [ws_len]; exact q), List.getElem?_eq_none (by rw [ws_len]; exact q)]
theorem hE_sA_ne (X : Cx) (σ : St) (o : Nat) (g : Nat → Int32) {i : Nat} (h : i ≠ o) : hE X (sA σ o g) i = hE X σ i := by
  have e1 : (sA σ o g).1 i = σ.1 i := by show (if i = o then g else σ.1 i) = σ.1 i; rw [if_neg h]
  have e2 : (sA σ o g).2 = σ.2 := rfl
  unfold hE
  rw [e1, e2]
theorem hE_sJ_ne (X : Cx) (σ : St) (o : Nat) (g : Nat → Int64) {i : Nat} (h : i ≠ o) : hE X (sJ σ o g) i = hE X σ i := by
  have e1 : (sJ σ o g).2 i = σ.2 i := by show (if i = o then g else σ.2 i) = σ.2 i; rw [if_neg h]
  have e2 : (sJ σ o g).1 = σ.1 := rfl
  unfold hE
  rw [e1, e2]
theorem sA_at (σ : St) (o : Nat) (g : Nat → Int32) : (sA σ o g).1 o = g := by show (if o = o then g else σ.1 o) = g; rw [if_pos rfl]
theorem sJ_at (σ : St) (o : Nat) (g : Nat → Int64) : (sJ σ o g).2 o = g := by show (if o = o then g else σ.2 o) = g; rw [if_pos rfl]
def fsO (X : Cx) (σ : St) (c i : Nat) : List Value := (List.range (nF c)).map (fun k => if rF c k = true then Value.ref (X.2.1 (gr i k)) else Value.int (σ.1 i k))
theorem hE_obj (X : Cx) (σ : St) {i c : Nat} (h : kd i = c) (hc : c < 100) : hE X σ i = .inr (c, fsO X σ c i) := by
  subst h
  unfold hE
  rw [if_pos hc]
  rfl
theorem hE_int (X : Cx) (σ : St) {i : Nat} (h : kd i = 100) : hE X σ i = .inl (X.2.2 0, ln i, .inl (σ.1 i)) := by
  unfold hE; rw [h]; rfl
theorem hE_long (X : Cx) (σ : St) {i : Nat} (h : kd i = 101) : hE X σ i = .inl (X.2.2 1, ln i, .inr (.inl (σ.2 i))) := by
  unfold hE; rw [h]; rfl
theorem hE_byte (X : Cx) (σ : St) {i : Nat} (h : kd i = 102) : hE X σ i = .inl (X.2.2 2, ln i, .inl (σ.1 i)) := by
  unfold hE; rw [h]; rfl
theorem hE_refs (X : Cx) (σ : St) {i k : Nat} (h : kd i = k) (hk : k = 103 ∨ k = 104) : hE X σ i = .inl (X.2.2 (k - 100), ln i, .inr (.inr (.inr (.inr (fun k => some (X.2.1 (gr i k))))))) := by
  unfold hE; rw [h]
  rcases hk with rfl | rfl <;> rfl
theorem fsO_at (X : Cx) (σ : St) {c i k : Nat} (hk : k < nF c) : (fsO X σ c i)[k]? = some (if rF c k = true then Value.ref (X.2.1 (gr i k)) else Value.int (σ.1 i k)) := by
  simp [fsO, hk]
theorem fsO_len (X : Cx) (σ : St) (c i : Nat) : (fsO X σ c i).length = nF c := by simp [fsO]
theorem fsO_set (X : Cx) (σ : St) {c o k : Nat} (hk : k < nF c) (hr : rF c k = false) (x : Int32) : (fsO X σ c o).set k (.int x) = fsO X (sA σ o (upd (σ.1 o) k x)) c o := by
  apply List.ext_getElem?
  intro i
  rw [List.getElem?_set, fsO_len]
  by_cases h : k = i
  · subst h
    rw [if_pos rfl, if_pos hk, fsO_at _ _ hk, sA_at]
    simp [hr, upd]
  · rw [if_neg h]
    rcases Nat.lt_or_ge i (nF c) with q | q
    · rw [fsO_at _ _ q, fsO_at _ _ q, sA_at]
      have hik : ¬ i = k := fun e => h e.symm
      simp only [upd, if_neg hik]
    · rw [List.getElem?_eq_none (by rw [fsO_len]; exact q), List.getElem?_eq_none (by rw [fsO_len]; exact q)]
/-- what stays as it is: the tables, the nest words, the addresses apart -/
def CX (X : Cx) (U : State) : Prop := va_K X.1 cls (tys X) U ∧ (∀ w ∈ nestW, va_Nw w U) ∧ ∀ i j, i < NC → j < NC → X.2.1 i = X.2.1 j → i = j
def AX (X : Cx) : Nat → Prop := fun q => ∃ i, i < NC ∧ X.2.1 i = q
theorem nest_warm {s U : State} (hW : s.WarmedH U.vm) (h : ∀ w ∈ nestW, va_Nw w s) : ∀ w ∈ nestW, va_Nw w U := by
  intro w hw
  have h1 := (List.mem_filter.mp hw).2
  have h2 := h w hw
  cases w <;> first | exact va_Nw.warmM hW h2 | exact Bool.noConfusion h1
theorem nest_same {s U : State} (hv : s.vm = U.vm) (h : ∀ w ∈ nestW, va_Nw w s) : ∀ w ∈ nestW, va_Nw w U := by
  intro w hw
  have h1 := (List.mem_filter.mp hw).2
  have h2 := h w hw
  cases w <;> first | exact Bool.noConfusion h1 | exact va_Nw.same rfl hv h2
theorem CX.warm {X : Cx} {s U : State} (hW : s.WarmedH U.vm) (h : CX X s) : CX X U := ⟨va_K.moved hW.alike h.1, nest_warm hW h.2.1, h.2.2⟩
theorem CX.same {X : Cx} {s U : State} (hv : s.vm = U.vm) (h : CX X s) : CX X U := ⟨va_K.moved (by rw [hv]; exact Vm.Alike.refl U.vm) h.1, nest_same hv h.2.1, h.2.2⟩
theorem ws_D {X : Cx} {σ : St} {A0 : Nat → Prop} (hi : ∀ i j, i < NC → j < NC → X.2.1 i = X.2.1 j → i = j) (hA : ∀ i, i < NC → A0 (X.2.1 i)) : va_D A0 (ws X σ) := by
  have lt : ∀ {k : Nat} {q : Nat × va_E}, (ws X σ)[k]? = some q → k < NC := fun {k q} h => by
    have := (List.getElem?_eq_some_iff.mp h).1
    rwa [ws_len] at this
  refine ⟨fun i j p q h1 h2 e => ?_, fun k q h => ?_⟩
  · have l1 := lt h1
    have l2 := lt h2
    rw [ws_at X σ l1] at h1
    rw [ws_at X σ l2] at h2
    cases h1; cases h2
    exact hi i j l1 l2 e
  · have l1 := lt h
    rw [ws_at X σ l1] at h
    cases h
    exact hA k l1
/-! locals -/
def lvH (X : Cx) (ls : Array Slot) (L : List (Option Value)) : Prop := ls.size = L.length ∧ lv_wf ls ∧ ∀ (i : Nat) (v : Value), L[i]? = some (some v) → ls[i]? = some (.val (cv X v))
def lvA (X : Cx) (L : List (Option Value)) : List (Nat × Value) := (List.range L.length).filterMap (fun i => (L.getD i none).map (fun v => (i, cv X v)))
theorem lvA_mem {X : Cx} {L : List (Option Value)} {i : Nat} {v : Value} (h : L[i]? = some (some v)) : (i, cv X v) ∈ lvA X L := by
  have hl := (List.getElem?_eq_some_iff.mp h).1
  refine List.mem_filterMap.mpr ⟨i, List.mem_range.mpr hl, ?_⟩
  rw [List.getD_eq_getElem?_getD, h]
  rfl
theorem lvA_of {X : Cx} {L : List (Option Value)} {q : Nat × Value} (h : q ∈ lvA X L) : ∃ v, L[q.1]? = some (some v) ∧ q.2 = cv X v := by
  obtain ⟨i, hi, he⟩ := List.mem_filterMap.mp h
  have hl := List.mem_range.mp hi
  rw [List.getD_eq_getElem?_getD] at he
  cases hx : L[i]? with
  | none => rw [hx] at he; cases he
  | some o =>
    rw [hx] at he
    cases o with
    | none => cases he
    | some v => cases he; exact ⟨v, hx, rfl⟩
theorem lvH.has {X : Cx} {ls : Array Slot} {L : List (Option Value)} (h : lvH X ls L) : lv_has ls L.length (lvA X L) := ⟨h.1, h.2.1, fun q hq => by
  obtain ⟨v, h1, h2⟩ := lvA_of hq
  rw [h2]
  exact h.2.2 _ _ h1⟩
def isL (o : Option Value) : Bool := match o with
  | some v => v.category == 2
  | none => false
def st1 : List (Option Value) → Nat → Value → List (Option Value)
  | [], _, _ => []
  | _ :: t, 0, v => some v :: t
  | w :: t, n + 1, v => (if n == 0 && isL w then none else w) :: st1 t n v
def st2 : List (Option Value) → Nat → Value → List (Option Value)
  | [], _, _ => []
  | _ :: t, 0, v => some v :: (match t with | [] => [] | _ :: t' => none :: t')
  | w :: t, n + 1, v => (if n == 0 && isL w then none else w) :: st2 t n v
theorem st1_len : ∀ (L : List (Option Value)) (i : Nat) (v : Value), (st1 L i v).length = L.length
  | [], _, _ => rfl
  | _ :: _, 0, _ => rfl
  | _ :: t, n + 1, v => by show (st1 t n v).length + 1 = t.length + 1; rw [st1_len t n v]
theorem st2_len : ∀ (L : List (Option Value)) (i : Nat) (v : Value), (st2 L i v).length = L.length
  | [], _, _ => rfl
  | [_], 0, _ => rfl
  | _ :: _ :: _, 0, _ => rfl
  | _ :: t, n + 1, v => by show (st2 t n v).length + 1 = t.length + 1; rw [st2_len t n v]
theorem st1_at : ∀ (L : List (Option Value)) (i : Nat) (v : Value) (j : Nat) (w : Value), (st1 L i v)[j]? = some (some w) → (j = i ∧ w = v) ∨ (j ≠ i ∧ L[j]? = some (some w) ∧ ¬ (j + 1 = i ∧ w.category = 2))
  | [], _, _, j, w, h => by simp [st1] at h
  | _ :: t, 0, v, 0, w, h => by simp [st1] at h; exact Or.inl ⟨rfl, h.symm⟩
  | _ :: t, 0, v, j + 1, w, h => by simp [st1] at h; exact Or.inr ⟨by omega, by simpa using h, by omega⟩
  | x :: t, n + 1, v, 0, w, h => by
    simp only [st1, List.getElem?_cons_zero, Option.some.injEq] at h
    refine Or.inr ⟨by omega, ?_, ?_⟩
    · split at h
      · cases h
      · simpa using h
    · rintro ⟨e, hc⟩
      have hn : n = 0 := by omega
      subst hn
      by_cases hx : isL x = true
      · simp [hx] at h
      · simp [hx] at h
        subst h
        exact hx (by simp [isL, hc])
  | x :: t, n + 1, v, j + 1, w, h => by
    simp only [st1, List.getElem?_cons_succ] at h ⊢
    rcases st1_at t n v j w h with ⟨h1, h2⟩ | ⟨h1, h2, h3⟩
    · exact Or.inl ⟨by omega, h2⟩
    · exact Or.inr ⟨by omega, h2, fun q => h3 ⟨by omega, q.2⟩⟩
theorem st2_at : ∀ (L : List (Option Value)) (i : Nat) (v : Value) (j : Nat) (w : Value), (st2 L i v)[j]? = some (some w) → (j = i ∧ w = v) ∨ (j ≠ i ∧ j ≠ i + 1 ∧ L[j]? = some (some w) ∧ ¬ (j + 1 = i ∧ w.category = 2))
  | [], _, _, j, w, h => by simp [st2] at h
  | _ :: t, 0, v, 0, w, h => by simp [st2] at h; exact Or.inl ⟨rfl, h.symm⟩
  | [_], 0, v, j + 1, w, h => by simp [st2] at h
  | _ :: _ :: t, 0, v, 1, w, h => by simp [st2] at h
  | _ :: _ :: t, 0, v, j + 2, w, h => by simp [st2] at h; exact Or.inr ⟨by omega, by omega, by simpa using h, by omega⟩
  | x :: t, n + 1, v, 0, w, h => by
    simp only [st2, List.getElem?_cons_zero, Option.some.injEq] at h
    refine Or.inr ⟨by omega, by omega, ?_, ?_⟩
    · split at h
      · cases h
      · simpa using h
    · rintro ⟨e, hc⟩
      have hn : n = 0 := by omega
      subst hn
      by_cases hx : isL x = true
      · simp [hx] at h
      · simp [hx] at h
        subst h
        exact hx (by simp [isL, hc])
  | x :: t, n + 1, v, j + 1, w, h => by
    simp only [st2, List.getElem?_cons_succ] at h ⊢
    rcases st2_at t n v j w h with ⟨h1, h2⟩ | ⟨h1, h2, h3, h4⟩
    · exact Or.inl ⟨by omega, h2⟩
    · exact Or.inr ⟨by omega, by omega, h3, fun q => h4 ⟨by omega, q.2⟩⟩
theorem lvH_st1 {X : Cx} {ls' : Array Slot} {L : List (Option Value)} {i : Nat} {v : Value} (h : lv_has ls' L.length ((i, cv X v) :: (lvA X L).filter (fun q => !(q.1 == i) && !(q.1 + 1 == i && q.2.category == 2)))) : lvH X ls' (st1 L i v) := by
  refine ⟨h.1.trans (st1_len L i v).symm, h.2.1, fun j w hj => ?_⟩
  rcases st1_at L i v j w hj with ⟨rfl, rfl⟩ | ⟨h1, h2, h3⟩
  · exact h.2.2 _ List.mem_cons_self
  · refine h.2.2 (j, cv X w) (List.mem_cons_of_mem _ (List.mem_filter.mpr ⟨lvA_mem h2, ?_⟩))
    by_cases e : j + 1 = i
    · have hc : ¬ w.category = 2 := fun q => h3 ⟨e, q⟩
      simp [h1, cv_cat, hc]
    · simp [h1, e]
theorem lvH_st2 {X : Cx} {ls' : Array Slot} {L : List (Option Value)} {i : Nat} {v : Value} (h : lv_has ls' L.length ((i, cv X v) :: (lvA X L).filter (fun q => !(q.1 == i) && (!(q.1 == i + 1) && !(q.1 + 1 == i && q.2.category == 2))))) : lvH X ls' (st2 L i v) := by
  refine ⟨h.1.trans (st2_len L i v).symm, h.2.1, fun j w hj => ?_⟩
  rcases st2_at L i v j w hj with ⟨rfl, rfl⟩ | ⟨h1, h2, h3, h4⟩
  · exact h.2.2 _ List.mem_cons_self
  · refine h.2.2 (j, cv X w) (List.mem_cons_of_mem _ (List.mem_filter.mpr ⟨lvA_mem h3, ?_⟩))
    by_cases e : j + 1 = i
    · have hc : ¬ w.category = 2 := fun q => h4 ⟨e, q⟩
      simp [h1, h2, cv_cat, hc]
    · simp [h1, h2, e]
/-- fewer values known -/
def lsub : List (Option Value) → List (Option Value) → Prop
  | [], [] => True
  | a :: l, b :: l' => (b = none ∨ a = b) ∧ lsub l l'
  | _, _ => False
theorem lsub_at : ∀ {L L' : List (Option Value)}, lsub L L' → L.length = L'.length ∧ ∀ (i : Nat) (v : Value), L'[i]? = some (some v) → L[i]? = some (some v)
  | [], [], _ => ⟨rfl, fun _ _ h => h⟩
  | a :: l, b :: l', h => by
    obtain ⟨h1, h2⟩ := lsub_at h.2
    refine ⟨by simp [h1], fun i v hi => ?_⟩
    cases i with
    | zero =>
      simp only [List.getElem?_cons_zero, Option.some.injEq] at hi ⊢
      rcases h.1 with e | e
      · rw [e] at hi; cases hi
      · rw [e]; exact hi
    | succ i => simpa using h2 i v (by simpa using hi)
  | [], _ :: _, h => h.elim
  | _ :: _, [], h => h.elim
theorem lvH.sub {X : Cx} {ls : Array Slot} {L L' : List (Option Value)} (h : lvH X ls L) (hs : lsub L L') : lvH X ls L' := ⟨h.1.trans (lsub_at hs).1, h.2.1, fun i v hi => h.2.2 i v ((lsub_at hs).2 i v hi)⟩
end
section

section SIMV
variable {X : Cx} {p : Program} {l : Launch} {e : Env} {R : Room} {s : State} {m : MethodId} {args : Array Value} {below : List Frame} {meth : Method} {c : Code} {A0 : Nat → Prop} {H0 : Heap} {cells slots : Nat} {Q : State → Prop}
def Fx (X : Cx) (M : Mt) (d : Nat) (R : Room) (p : Program) (s : State) (m : MethodId) (args : Array Value) (c : Code) (A0 : Nat → Prop) (cells slots : Nat) : Prop :=
  p.tables.exec = Jvm.exec ∧ c.code = M.2.1 ∧ c.maxLocals = M.2.2.1 ∧ s.vm.findClass M.1 = some m.cls ∧ (∀ w ∈ GW, w.before args s = true) ∧ CX X s ∧ (d ≤ R.frames ∧ 64 * d ≤ R.locals ∧ cells ≤ R.cells ∧ slots ≤ R.slots) ∧ ∀ i, i < NC → A0 (X.2.1 i)
def At (X : Cx) (p : Program) (l : Launch) (e : Env) (R : Room) (s : State) (m : MethodId) (args : Array Value) (below : List Frame) (meth : Method) (c : Code) (A0 : Nat → Prop) (H0 : Heap) (cells slots : Nat) (Q : State → Prop) (pc : Nat) (L : List (Option Value)) (st : List Value) (σ : St) : Prop :=
  ∀ (H : Heap) (locs : List Loc) (ls : Array Slot), va_P X.1 cls (ws X σ) H → va_S A0 H0 H locs → lvH X ls L → W p l e R s m args below meth c H locs cells slots Q (F0 m pc ls (st.map (cv X)))
/-- one step of the machine, whatever comes behind -/
def Go (M : Mt) (d : Nat) (pc : Nat) (L : List (Option Value)) (st : List Value) (σ : St) (pc' : Nat) (L' : List (Option Value)) (st' : List Value) (σ' : St) : Prop :=
  ∀ (X : Cx) (p : Program) (l : Launch) (e : Env) (R : Room) (s : State) (m : MethodId) (args : Array Value) (below : List Frame) (meth : Method) (c : Code) (A0 : Nat → Prop) (H0 : Heap) (cells slots : Nat) (Q : State → Prop), Fx X M d R p s m args c A0 cells slots →
    At X p l e R s m args below meth c A0 H0 cells slots Q pc' L' st' σ' → At X p l e R s m args below meth c A0 H0 cells slots Q pc L st σ
/-- a branch: stack and locals behind it are the same on both sides -/
def Br (M : Mt) (d : Nat) (pc : Nat) (L : List (Option Value)) (st : List Value) (σ : St) (q q2 : Prop) (pc1 pc2 : Nat) (st' : List Value) : Prop :=
  ∀ (X : Cx) (p : Program) (l : Launch) (e : Env) (R : Room) (s : State) (m : MethodId) (args : Array Value) (below : List Frame) (meth : Method) (c : Code) (A0 : Nat → Prop) (H0 : Heap) (cells slots : Nat) (Q : State → Prop), Fx X M d R p s m args c A0 cells slots →
    (q → At X p l e R s m args below meth c A0 H0 cells slots Q pc1 L st' σ) → (q2 → At X p l e R s m args below meth c A0 H0 cells slots Q pc2 L st' σ) → At X p l e R s m args below meth c A0 H0 cells slots Q pc L st σ
variable {M : Mt} {d pc : Nat} {L : List (Option Value)} {st : List Value} {σ : St}

theorem go_iconst {n : Int} {v : Int32} (hd : decode M.2.1 pc = .ok (.iconst n, 1)) (hv : Int32.ofInt n = v) : Go M d pc L (st) σ (pc + 1) (L) (.int v :: st) (σ) := by
  intro X p l e R s m args below meth c A0 H0 cells slots Q F k H locs ls hP hS hL
  exact lv_iconst F.1 F.2.1 hd hv (k H locs ls hP hS hL)

theorem go_bipush {n : Int} {v : Int32} (hd : decode M.2.1 pc = .ok (.bipush n, 2)) (hv : (Int8.ofInt n).toInt32 = v) : Go M d pc L (st) σ (pc + 2) (L) (.int v :: st) (σ) := by
  intro X p l e R s m args below meth c A0 H0 cells slots Q F k H locs ls hP hS hL
  exact lv_bipush F.1 F.2.1 hd hv (k H locs ls hP hS hL)

theorem go_sipush {n : Int} {v : Int32} (hd : decode M.2.1 pc = .ok (.sipush n, 3)) (hv : (Int16.ofInt n).toInt32 = v) : Go M d pc L (st) σ (pc + 3) (L) (.int v :: st) (σ) := by
  intro X p l e R s m args below meth c A0 H0 cells slots Q F k H locs ls hP hS hL
  exact lv_sipush F.1 F.2.1 hd hv (k H locs ls hP hS hL)

theorem go_lconst {n : Fin 2} {v : Int64} (hd : decode M.2.1 pc = .ok (.lconst n, 1)) (hv : Int64.ofNat (n : Nat) = v) : Go M d pc L (st) σ (pc + 1) (L) (.long v :: st) (σ) := by
  intro X p l e R s m args below meth c A0 H0 cells slots Q F k H locs ls hP hS hL
  exact lv_lconst F.1 F.2.1 hd hv (k H locs ls hP hS hL)

theorem go_null (hd : decode M.2.1 pc = .ok (.aconst_null, 1)) : Go M d pc L (st) σ (pc + 1) (L) (.null :: st) (σ) := by
  intro X p l e R s m args below meth c A0 H0 cells slots Q F k H locs ls hP hS hL
  exact lv_null F.1 F.2.1 hd (k H locs ls hP hS hL)

theorem go_ldc {i : Nat} {v : Int32} (hc : Cond.constant M.1 i v ∈ GW) (hd : decode M.2.1 pc = .ok (.ldc i, 2)) : Go M d pc L (st) σ (pc + 2) (L) (.int v :: st) (σ) := by
  intro X p l e R s m args below meth c A0 H0 cells slots Q F k H locs ls hP hS hL
  exact lv_ldc F.1 F.2.1 F.2.2.2.1 (F.2.2.2.2.1 _ hc) hd (k H locs ls hP hS hL)

theorem go_ldcw {i : Nat} {v : Int32} (hc : Cond.constant M.1 i v ∈ GW) (hd : decode M.2.1 pc = .ok (.ldc_w i, 3)) : Go M d pc L (st) σ (pc + 3) (L) (.int v :: st) (σ) := by
  intro X p l e R s m args below meth c A0 H0 cells slots Q F k H locs ls hP hS hL
  exact lv_ldcw F.1 F.2.1 F.2.2.2.1 (F.2.2.2.2.1 _ hc) hd (k H locs ls hP hS hL)

theorem go_ldc2 {i : Nat} {v : Int64} (hc : Cond.constantLong M.1 i v ∈ GW) (hd : decode M.2.1 pc = .ok (.ldc2_w i, 3)) : Go M d pc L (st) σ (pc + 3) (L) (.long v :: st) (σ) := by
  intro X p l e R s m args below meth c A0 H0 cells slots Q F k H locs ls hP hS hL
  exact lv_ldc2 F.1 F.2.1 F.2.2.2.1 (F.2.2.2.2.1 _ hc) hd (k H locs ls hP hS hL)

theorem go_iload_n {k : Fin 4} {x : Int32} (i : Nat) (hd : decode M.2.1 pc = .ok (.iload_n k, 1)) (hi : (k : Nat) = i) (hx : L[i]? = some (some (.int x))) : Go M d pc L (st) σ (pc + 1) (L) (.int x :: st) (σ) := by
  intro X p l e R s m args below meth c A0 H0 cells slots Q F k H locs ls hP hS hL
  exact lv_iload_n F.1 F.2.1 hd hi (hL.2.2 i _ hx) (k H locs ls hP hS hL)

theorem go_iload {x : Int32} (i : Nat) (hd : decode M.2.1 pc = .ok (.iload i, 2)) (hx : L[i]? = some (some (.int x))) : Go M d pc L (st) σ (pc + 2) (L) (.int x :: st) (σ) := by
  intro X p l e R s m args below meth c A0 H0 cells slots Q F k H locs ls hP hS hL
  exact lv_iload F.1 F.2.1 hd (hL.2.2 i _ hx) (k H locs ls hP hS hL)

theorem go_istore_n {k : Fin 4} {x : Int32} (i : Nat) {L' : List (Option Value)} (hd : decode M.2.1 pc = .ok (.istore_n k, 1)) (hi : (k : Nat) = i) (hn : i < L.length) (he : st1 L i (.int x) = L') : Go M d pc L (.int x :: st) σ (pc + 1) (L') (st) (σ) := by
  intro X p l e R s m args below meth c A0 H0 cells slots Q F k H locs ls hP hS hL
  subst he
  exact lv_istore_n F.1 F.2.1 hd hi hL.has hn rfl (fun ls' h' => k H locs ls' hP hS (lvH_st1 (v := .int x) h'))

theorem go_istore {x : Int32} (i : Nat) {L' : List (Option Value)} (hd : decode M.2.1 pc = .ok (.istore i, 2)) (hn : i < L.length) (he : st1 L i (.int x) = L') : Go M d pc L (.int x :: st) σ (pc + 2) (L') (st) (σ) := by
  intro X p l e R s m args below meth c A0 H0 cells slots Q F k H locs ls hP hS hL
  subst he
  exact lv_istore F.1 F.2.1 hd hL.has hn rfl (fun ls' h' => k H locs ls' hP hS (lvH_st1 (v := .int x) h'))

theorem go_lload_n {k : Fin 4} {x : Int64} (i : Nat) (hd : decode M.2.1 pc = .ok (.lload_n k, 1)) (hi : (k : Nat) = i) (hx : L[i]? = some (some (.long x))) : Go M d pc L (st) σ (pc + 1) (L) (.long x :: st) (σ) := by
  intro X p l e R s m args below meth c A0 H0 cells slots Q F k H locs ls hP hS hL
  exact lv_lload_n F.1 F.2.1 hd hi (hL.2.2 i _ hx) (k H locs ls hP hS hL)

theorem go_lload {x : Int64} (i : Nat) (hd : decode M.2.1 pc = .ok (.lload i, 2)) (hx : L[i]? = some (some (.long x))) : Go M d pc L (st) σ (pc + 2) (L) (.long x :: st) (σ) := by
  intro X p l e R s m args below meth c A0 H0 cells slots Q F k H locs ls hP hS hL
  exact lv_lload F.1 F.2.1 hd (hL.2.2 i _ hx) (k H locs ls hP hS hL)

theorem go_lstore_n {k : Fin 4} {x : Int64} (i : Nat) {L' : List (Option Value)} (hd : decode M.2.1 pc = .ok (.lstore_n k, 1)) (hi : (k : Nat) = i) (hn : i + 1 < L.length) (he : st2 L i (.long x) = L') : Go M d pc L (.long x :: st) σ (pc + 1) (L') (st) (σ) := by
  intro X p l e R s m args below meth c A0 H0 cells slots Q F k H locs ls hP hS hL
  subst he
  exact lv_lstore_n F.1 F.2.1 hd hi hL.has hn rfl (fun ls' h' => k H locs ls' hP hS (lvH_st2 (v := .long x) h'))

theorem go_lstore {x : Int64} (i : Nat) {L' : List (Option Value)} (hd : decode M.2.1 pc = .ok (.lstore i, 2)) (hn : i + 1 < L.length) (he : st2 L i (.long x) = L') : Go M d pc L (.long x :: st) σ (pc + 2) (L') (st) (σ) := by
  intro X p l e R s m args below meth c A0 H0 cells slots Q F k H locs ls hP hS hL
  subst he
  exact lv_lstore F.1 F.2.1 hd hL.has hn rfl (fun ls' h' => k H locs ls' hP hS (lvH_st2 (v := .long x) h'))

theorem go_aload_n {k : Fin 4} {x : Nat} (i : Nat) (hd : decode M.2.1 pc = .ok (.aload_n k, 1)) (hi : (k : Nat) = i) (hx : L[i]? = some (some (.ref x))) : Go M d pc L (st) σ (pc + 1) (L) (.ref x :: st) (σ) := by
  intro X p l e R s m args below meth c A0 H0 cells slots Q F k H locs ls hP hS hL
  exact lv_aload_n F.1 F.2.1 hd hi (hL.2.2 i _ hx) (k H locs ls hP hS hL)

theorem go_aload {x : Nat} (i : Nat) (hd : decode M.2.1 pc = .ok (.aload i, 2)) (hx : L[i]? = some (some (.ref x))) : Go M d pc L (st) σ (pc + 2) (L) (.ref x :: st) (σ) := by
  intro X p l e R s m args below meth c A0 H0 cells slots Q F k H locs ls hP hS hL
  exact lv_aload F.1 F.2.1 hd (hL.2.2 i _ hx) (k H locs ls hP hS hL)

theorem go_astore_n {k : Fin 4} {x : Nat} (i : Nat) {L' : List (Option Value)} (hd : decode M.2.1 pc = .ok (.astore_n k, 1)) (hi : (k : Nat) = i) (hn : i < L.length) (he : st1 L i (.ref x) = L') : Go M d pc L (.ref x :: st) σ (pc + 1) (L') (st) (σ) := by
  intro X p l e R s m args below meth c A0 H0 cells slots Q F k H locs ls hP hS hL
  subst he
  exact lv_astore_n F.1 F.2.1 hd hi hL.has hn rfl (fun ls' h' => k H locs ls' hP hS (lvH_st1 (v := .ref x) h'))

theorem go_astore {x : Nat} (i : Nat) {L' : List (Option Value)} (hd : decode M.2.1 pc = .ok (.astore i, 2)) (hn : i < L.length) (he : st1 L i (.ref x) = L') : Go M d pc L (.ref x :: st) σ (pc + 2) (L') (st) (σ) := by
  intro X p l e R s m args below meth c A0 H0 cells slots Q F k H locs ls hP hS hL
  subst he
  exact lv_astore F.1 F.2.1 hd hL.has hn rfl (fun ls' h' => k H locs ls' hP hS (lvH_st1 (v := .ref x) h'))

theorem go_astore_nN {k : Fin 4} (i : Nat) {L' : List (Option Value)} (hd : decode M.2.1 pc = .ok (.astore_n k, 1)) (hi : (k : Nat) = i) (hn : i < L.length) (he : st1 L i .null = L') : Go M d pc L (.null :: st) σ (pc + 1) (L') (st) (σ) := by
  intro X p l e R s m args below meth c A0 H0 cells slots Q F k H locs ls hP hS hL
  subst he
  exact lv_astore_nN F.1 F.2.1 hd hi hL.has hn rfl (fun ls' h' => k H locs ls' hP hS (lvH_st1 (v := .null) h'))

theorem go_astoreN (i : Nat) {L' : List (Option Value)} (hd : decode M.2.1 pc = .ok (.astore i, 2)) (hn : i < L.length) (he : st1 L i .null = L') : Go M d pc L (.null :: st) σ (pc + 2) (L') (st) (σ) := by
  intro X p l e R s m args below meth c A0 H0 cells slots Q F k H locs ls hP hS hL
  subst he
  exact lv_astoreN F.1 F.2.1 hd hL.has hn rfl (fun ls' h' => k H locs ls' hP hS (lvH_st1 (v := .null) h'))

theorem go_aload_nN {k : Fin 4} (i : Nat) (hd : decode M.2.1 pc = .ok (.aload_n k, 1)) (hi : (k : Nat) = i) (hx : L[i]? = some (some .null)) : Go M d pc L (st) σ (pc + 1) (L) (.null :: st) (σ) := by
  intro X p l e R s m args below meth c A0 H0 cells slots Q F k H locs ls hP hS hL
  exact lv_aload_nN F.1 F.2.1 hd hi (hL.2.2 i _ hx) (k H locs ls hP hS hL)

theorem go_aloadN (i : Nat) (hd : decode M.2.1 pc = .ok (.aload i, 2)) (hx : L[i]? = some (some .null)) : Go M d pc L (st) σ (pc + 2) (L) (.null :: st) (σ) := by
  intro X p l e R s m args below meth c A0 H0 cells slots Q F k H locs ls hP hS hL
  exact lv_aloadN F.1 F.2.1 hd (hL.2.2 i _ hx) (k H locs ls hP hS hL)

theorem go_iinc {x v : Int32} {n : Int} (i : Nat) {L' : List (Option Value)} (hd : decode M.2.1 pc = .ok (.iinc i n, 3)) (hx : L[i]? = some (some (.int x))) (hv : x + Int32.ofInt n = v) (hn : i < L.length) (he : st1 L i (.int v) = L') : Go M d pc L (st) σ (pc + 3) (L') (st) (σ) := by
  intro X p l e R s m args below meth c A0 H0 cells slots Q F k H locs ls hP hS hL
  subst he
  obtain ⟨q, hq⟩ := List.getElem?_of_mem (lvA_mem (X := X) hx)
  exact lv_iinc F.1 F.2.1 hd hL.has hq hv hn rfl (fun ls' h' => k H locs ls' hP hS (lvH_st1 (v := .int v) h'))

theorem go_iadd {x y : Int32} (hd : decode M.2.1 pc = .ok (.iadd, 1)) : Go M d pc L (.int y :: .int x :: st) σ (pc + 1) (L) (.int (x + y) :: st) (σ) := by
  intro X p l e R s m args below meth c A0 H0 cells slots Q F k H locs ls hP hS hL
  exact lv_iadd F.1 F.2.1 hd (k H locs ls hP hS hL)

theorem go_isub {x y : Int32} (hd : decode M.2.1 pc = .ok (.isub, 1)) : Go M d pc L (.int y :: .int x :: st) σ (pc + 1) (L) (.int (x - y) :: st) (σ) := by
  intro X p l e R s m args below meth c A0 H0 cells slots Q F k H locs ls hP hS hL
  exact lv_isub F.1 F.2.1 hd (k H locs ls hP hS hL)

theorem go_imul {x y : Int32} (hd : decode M.2.1 pc = .ok (.imul, 1)) : Go M d pc L (.int y :: .int x :: st) σ (pc + 1) (L) (.int (x * y) :: st) (σ) := by
  intro X p l e R s m args below meth c A0 H0 cells slots Q F k H locs ls hP hS hL
  exact lv_imul F.1 F.2.1 hd (k H locs ls hP hS hL)

theorem go_iand {x y : Int32} (hd : decode M.2.1 pc = .ok (.iand, 1)) : Go M d pc L (.int y :: .int x :: st) σ (pc + 1) (L) (.int (x &&& y) :: st) (σ) := by
  intro X p l e R s m args below meth c A0 H0 cells slots Q F k H locs ls hP hS hL
  exact lv_iand F.1 F.2.1 hd (k H locs ls hP hS hL)

theorem go_ior {x y : Int32} (hd : decode M.2.1 pc = .ok (.ior, 1)) : Go M d pc L (.int y :: .int x :: st) σ (pc + 1) (L) (.int (x ||| y) :: st) (σ) := by
  intro X p l e R s m args below meth c A0 H0 cells slots Q F k H locs ls hP hS hL
  exact lv_ior F.1 F.2.1 hd (k H locs ls hP hS hL)

theorem go_ixor {x y : Int32} (hd : decode M.2.1 pc = .ok (.ixor, 1)) : Go M d pc L (.int y :: .int x :: st) σ (pc + 1) (L) (.int (x ^^^ y) :: st) (σ) := by
  intro X p l e R s m args below meth c A0 H0 cells slots Q F k H locs ls hP hS hL
  exact lv_ixor F.1 F.2.1 hd (k H locs ls hP hS hL)

theorem go_ishl {x y : Int32} (hd : decode M.2.1 pc = .ok (.ishl, 1)) : Go M d pc L (.int y :: .int x :: st) σ (pc + 1) (L) (.int (x <<< (y &&& 31)) :: st) (σ) := by
  intro X p l e R s m args below meth c A0 H0 cells slots Q F k H locs ls hP hS hL
  exact lv_ishl F.1 F.2.1 hd (k H locs ls hP hS hL)

theorem go_ishr {x y : Int32} (hd : decode M.2.1 pc = .ok (.ishr, 1)) : Go M d pc L (.int y :: .int x :: st) σ (pc + 1) (L) (.int (x >>> (y &&& 31)) :: st) (σ) := by
  intro X p l e R s m args below meth c A0 H0 cells slots Q F k H locs ls hP hS hL
  exact lv_ishr F.1 F.2.1 hd (k H locs ls hP hS hL)

theorem go_iushr {x y : Int32} (hd : decode M.2.1 pc = .ok (.iushr, 1)) : Go M d pc L (.int y :: .int x :: st) σ (pc + 1) (L) (.int ((x.toUInt32 >>> (y.toUInt32 &&& Int32.toUInt32 31)).toInt32) :: st) (σ) := by
  intro X p l e R s m args below meth c A0 H0 cells slots Q F k H locs ls hP hS hL
  exact lv_iushr F.1 F.2.1 hd rfl (k H locs ls hP hS hL)

theorem go_ineg {x : Int32} (hd : decode M.2.1 pc = .ok (.ineg, 1)) : Go M d pc L (.int x :: st) σ (pc + 1) (L) (.int (-x) :: st) (σ) := by
  intro X p l e R s m args below meth c A0 H0 cells slots Q F k H locs ls hP hS hL
  exact lv_ineg F.1 F.2.1 hd (k H locs ls hP hS hL)

theorem go_idiv {x y : Int32} (hd : decode M.2.1 pc = .ok (.idiv, 1)) (hz : ¬ y = 0) : Go M d pc L (.int y :: .int x :: st) σ (pc + 1) (L) (.int (x / y) :: st) (σ) := by
  intro X p l e R s m args below meth c A0 H0 cells slots Q F k H locs ls hP hS hL
  exact lv_idiv F.1 F.2.1 hd hz (k H locs ls hP hS hL)

theorem go_irem {x y : Int32} (hd : decode M.2.1 pc = .ok (.irem, 1)) (hz : ¬ y = 0) : Go M d pc L (.int y :: .int x :: st) σ (pc + 1) (L) (.int (x - x / y * y) :: st) (σ) := by
  intro X p l e R s m args below meth c A0 H0 cells slots Q F k H locs ls hP hS hL
  exact lv_irem F.1 F.2.1 hd hz (k H locs ls hP hS hL)

theorem go_ldiv {x y : Int64} (hd : decode M.2.1 pc = .ok (.ldiv, 1)) (hz : ¬ y = 0) : Go M d pc L (.long y :: .long x :: st) σ (pc + 1) (L) (.long (x / y) :: st) (σ) := by
  intro X p l e R s m args below meth c A0 H0 cells slots Q F k H locs ls hP hS hL
  exact lv_ldiv F.1 F.2.1 hd hz (k H locs ls hP hS hL)

theorem go_lrem {x y : Int64} (hd : decode M.2.1 pc = .ok (.lrem, 1)) (hz : ¬ y = 0) : Go M d pc L (.long y :: .long x :: st) σ (pc + 1) (L) (.long (x - x / y * y) :: st) (σ) := by
  intro X p l e R s m args below meth c A0 H0 cells slots Q F k H locs ls hP hS hL
  exact lv_lrem F.1 F.2.1 hd hz (k H locs ls hP hS hL)

theorem go_ladd {x y : Int64} (hd : decode M.2.1 pc = .ok (.ladd, 1)) : Go M d pc L (.long y :: .long x :: st) σ (pc + 1) (L) (.long (x + y) :: st) (σ) := by
  intro X p l e R s m args below meth c A0 H0 cells slots Q F k H locs ls hP hS hL
  exact lv_ladd F.1 F.2.1 hd (k H locs ls hP hS hL)

theorem go_lsub {x y : Int64} (hd : decode M.2.1 pc = .ok (.lsub, 1)) : Go M d pc L (.long y :: .long x :: st) σ (pc + 1) (L) (.long (x - y) :: st) (σ) := by
  intro X p l e R s m args below meth c A0 H0 cells slots Q F k H locs ls hP hS hL
  exact lv_lsub F.1 F.2.1 hd (k H locs ls hP hS hL)

theorem go_lmul {x y : Int64} (hd : decode M.2.1 pc = .ok (.lmul, 1)) : Go M d pc L (.long y :: .long x :: st) σ (pc + 1) (L) (.long (x * y) :: st) (σ) := by
  intro X p l e R s m args below meth c A0 H0 cells slots Q F k H locs ls hP hS hL
  exact lv_lmul F.1 F.2.1 hd (k H locs ls hP hS hL)

theorem go_land {x y : Int64} (hd : decode M.2.1 pc = .ok (.land, 1)) : Go M d pc L (.long y :: .long x :: st) σ (pc + 1) (L) (.long (x &&& y) :: st) (σ) := by
  intro X p l e R s m args below meth c A0 H0 cells slots Q F k H locs ls hP hS hL
  exact lv_land F.1 F.2.1 hd (k H locs ls hP hS hL)

theorem go_lor {x y : Int64} (hd : decode M.2.1 pc = .ok (.lor, 1)) : Go M d pc L (.long y :: .long x :: st) σ (pc + 1) (L) (.long (x ||| y) :: st) (σ) := by
  intro X p l e R s m args below meth c A0 H0 cells slots Q F k H locs ls hP hS hL
  exact lv_lor F.1 F.2.1 hd (k H locs ls hP hS hL)

theorem go_lxor {x y : Int64} (hd : decode M.2.1 pc = .ok (.lxor, 1)) : Go M d pc L (.long y :: .long x :: st) σ (pc + 1) (L) (.long (x ^^^ y) :: st) (σ) := by
  intro X p l e R s m args below meth c A0 H0 cells slots Q F k H locs ls hP hS hL
  exact lv_lxor F.1 F.2.1 hd (k H locs ls hP hS hL)

theorem go_lshl {x : Int64} {y : Int32} (hd : decode M.2.1 pc = .ok (.lshl, 1)) : Go M d pc L (.int y :: .long x :: st) σ (pc + 1) (L) (.long (x <<< (y.toInt64 &&& 63)) :: st) (σ) := by
  intro X p l e R s m args below meth c A0 H0 cells slots Q F k H locs ls hP hS hL
  exact lv_lshl F.1 F.2.1 hd rfl (k H locs ls hP hS hL)

theorem go_lshr {x : Int64} {y : Int32} (hd : decode M.2.1 pc = .ok (.lshr, 1)) : Go M d pc L (.int y :: .long x :: st) σ (pc + 1) (L) (.long (x >>> (y.toInt64 &&& 63)) :: st) (σ) := by
  intro X p l e R s m args below meth c A0 H0 cells slots Q F k H locs ls hP hS hL
  exact lv_lshr F.1 F.2.1 hd rfl (k H locs ls hP hS hL)

theorem go_lcmp {x y : Int64} (hd : decode M.2.1 pc = .ok (.lcmp, 1)) : Go M d pc L (.long y :: .long x :: st) σ (pc + 1) (L) (.int (lg_cmp x y) :: st) (σ) := by
  intro X p l e R s m args below meth c A0 H0 cells slots Q F k H locs ls hP hS hL
  exact W.lcmp F.1 F.2.1 hd (k H locs ls hP hS hL)

theorem go_i2l {x : Int32} (hd : decode M.2.1 pc = .ok (.i2l, 1)) : Go M d pc L (.int x :: st) σ (pc + 1) (L) (.long x.toInt64 :: st) (σ) := by
  intro X p l e R s m args below meth c A0 H0 cells slots Q F k H locs ls hP hS hL
  exact lv_i2l F.1 F.2.1 hd rfl (k H locs ls hP hS hL)

theorem go_l2i {x : Int64} (hd : decode M.2.1 pc = .ok (.l2i, 1)) : Go M d pc L (.long x :: st) σ (pc + 1) (L) (.int x.toInt32 :: st) (σ) := by
  intro X p l e R s m args below meth c A0 H0 cells slots Q F k H locs ls hP hS hL
  exact lv_l2i F.1 F.2.1 hd rfl (k H locs ls hP hS hL)

theorem go_i2b {x : Int32} (hd : decode M.2.1 pc = .ok (.i2b, 1)) : Go M d pc L (.int x :: st) σ (pc + 1) (L) (.int x.toInt8.toInt32 :: st) (σ) := by
  intro X p l e R s m args below meth c A0 H0 cells slots Q F k H locs ls hP hS hL
  exact lv_i2b F.1 F.2.1 hd rfl (k H locs ls hP hS hL)

theorem go_i2s {x : Int32} (hd : decode M.2.1 pc = .ok (.i2s, 1)) : Go M d pc L (.int x :: st) σ (pc + 1) (L) (.int x.toInt16.toInt32 :: st) (σ) := by
  intro X p l e R s m args below meth c A0 H0 cells slots Q F k H locs ls hP hS hL
  exact lv_i2s F.1 F.2.1 hd rfl (k H locs ls hP hS hL)

theorem go_dup {v : Value} (hd : decode M.2.1 pc = .ok (.dup, 1)) (hc : v.category = 1) : Go M d pc L (v :: st) σ (pc + 1) (L) (v :: v :: st) (σ) := by
  intro X p l e R s m args below meth c A0 H0 cells slots Q F k H locs ls hP hS hL
  exact lv_dup F.1 F.2.1 hd (by rw [cv_cat]; exact hc) (k H locs ls hP hS hL)

theorem go_pop {v : Value} (hd : decode M.2.1 pc = .ok (.pop, 1)) (hc : v.category = 1) : Go M d pc L (v :: st) σ (pc + 1) (L) (st) (σ) := by
  intro X p l e R s m args below meth c A0 H0 cells slots Q F k H locs ls hP hS hL
  exact lv_pop F.1 F.2.1 hd (by rw [cv_cat]; exact hc) (k H locs ls hP hS hL)

theorem go_dup_x1 {v w : Value} (hd : decode M.2.1 pc = .ok (.dup_x1, 1)) (hc : v.category = 1) (hc2 : w.category = 1) : Go M d pc L (v :: w :: st) σ (pc + 1) (L) (v :: w :: v :: st) (σ) := by
  intro X p l e R s m args below meth c A0 H0 cells slots Q F k H locs ls hP hS hL
  exact lv_dup_x1 F.1 F.2.1 hd (by rw [cv_cat]; exact hc) (by rw [cv_cat]; exact hc2) (k H locs ls hP hS hL)

theorem go_dup2 {v w : Value} (hd : decode M.2.1 pc = .ok (.dup2, 1)) (hc : v.category = 1) (hc2 : w.category = 1) : Go M d pc L (v :: w :: st) σ (pc + 1) (L) (v :: w :: v :: w :: st) (σ) := by
  intro X p l e R s m args below meth c A0 H0 cells slots Q F k H locs ls hP hS hL
  exact lv_dup2_11 F.1 F.2.1 hd (by rw [cv_cat]; exact hc) (by rw [cv_cat]; exact hc2) (k H locs ls hP hS hL)

theorem go_goto {off : Int} (tgt : Nat) (hd : decode M.2.1 pc = .ok (.goto off, 3)) (ht : (pc : Int) + off = (tgt : Int)) : Go M d pc L (st) σ (tgt) (L) (st) (σ) := by
  intro X p l e R s m args below meth c A0 H0 cells slots Q F k H locs ls hP hS hL
  exact lv_goto F.1 F.2.1 hd ht (k H locs ls hP hS hL)

theorem go_ifnull_r {o : Nat} {off : Int} (hd : decode M.2.1 pc = .ok (.ifnull off, 3)) : Go M d pc L (.ref o :: st) σ (pc + 3) (L) (st) (σ) := by
  intro X p l e R s m args below meth c A0 H0 cells slots Q F k H locs ls hP hS hL
  exact lv_ifnull F.1 F.2.1 hd (k H locs ls hP hS hL)

theorem go_ifnull_n {off : Int} (tgt : Nat) (hd : decode M.2.1 pc = .ok (.ifnull off, 3)) (ht : (pc : Int) + off = (tgt : Int)) : Go M d pc L (.null :: st) σ (tgt) (L) (st) (σ) := by
  intro X p l e R s m args below meth c A0 H0 cells slots Q F k H locs ls hP hS hL
  exact lv_ifnullN F.1 F.2.1 hd ht (k H locs ls hP hS hL)

theorem go_ifnonnull_r {o : Nat} {off : Int} (tgt : Nat) (hd : decode M.2.1 pc = .ok (.ifnonnull off, 3)) (ht : (pc : Int) + off = (tgt : Int)) : Go M d pc L (.ref o :: st) σ (tgt) (L) (st) (σ) := by
  intro X p l e R s m args below meth c A0 H0 cells slots Q F k H locs ls hP hS hL
  exact lv_ifnonnull F.1 F.2.1 hd ht (k H locs ls hP hS hL)

theorem go_ifnonnull_n {off : Int} (hd : decode M.2.1 pc = .ok (.ifnonnull off, 3)) : Go M d pc L (.null :: st) σ (pc + 3) (L) (st) (σ) := by
  intro X p l e R s m args below meth c A0 H0 cells slots Q F k H locs ls hP hS hL
  exact lv_ifnonnullN F.1 F.2.1 hd (k H locs ls hP hS hL)

theorem go_iald {a : Nat} {i : Int32} (hk : kd a = 100) {n : Nat} (hn : ln a = n) (hi : vp_in i n) (hd : decode M.2.1 pc = .ok (.iaload, 1)) : Go M d pc L (.int i :: .ref a :: st) σ (pc + 1) (L) (.int (σ.1 a i.toNatClampNeg) :: st) (σ) := by
  intro X p l e R s m args below meth c A0 H0 cells slots Q F k H locs ls hP hS hL
  exact va_iald F.1 F.2.1 F.2.2.2.2.2.1.1 hP a 0 (by rw [ws_at X σ (kd_lt hk (by decide)), hE_int X σ hk]) rfl (hn ▸ hi) hd (k H locs ls hP hS hL)

theorem go_bald {a : Nat} {i : Int32} (hk : kd a = 102) {n : Nat} (hn : ln a = n) (hi : vp_in i n) (hd : decode M.2.1 pc = .ok (.baload, 1)) : Go M d pc L (.int i :: .ref a :: st) σ (pc + 1) (L) (.int (σ.1 a i.toNatClampNeg) :: st) (σ) := by
  intro X p l e R s m args below meth c A0 H0 cells slots Q F k H locs ls hP hS hL
  exact va_bald F.1 F.2.1 F.2.2.2.2.2.1.1 hP a 2 (by rw [ws_at X σ (kd_lt hk (by decide)), hE_byte X σ hk]) rfl (hn ▸ hi) hd (k H locs ls hP hS hL)

theorem go_lald {a : Nat} {i : Int32} (hk : kd a = 101) {n : Nat} (hn : ln a = n) (hi : vp_in i n) (hd : decode M.2.1 pc = .ok (.laload, 1)) : Go M d pc L (.int i :: .ref a :: st) σ (pc + 1) (L) (.long (σ.2 a i.toNatClampNeg) :: st) (σ) := by
  intro X p l e R s m args below meth c A0 H0 cells slots Q F k H locs ls hP hS hL
  exact va_lald F.1 F.2.1 F.2.2.2.2.2.1.1 hP a 1 (by rw [ws_at X σ (kd_lt hk (by decide)), hE_long X σ hk]) rfl (hn ▸ hi) hd (k H locs ls hP hS hL)

theorem go_aald103 {a r : Nat} {i : Int32} (hk : kd a = 103) (hg : gr a i.toNatClampNeg = r) {n : Nat} (hn : ln a = n) (hi : vp_in i n) (hd : decode M.2.1 pc = .ok (.aaload, 1)) : Go M d pc L (.int i :: .ref a :: st) σ (pc + 1) (L) (.ref r :: st) (σ) := by
  intro X p l e R s m args below meth c A0 H0 cells slots Q F k H locs ls hP hS hL
  subst hg
  have hat : (ws X σ)[a]? = some (X.2.1 a, .inl (X.2.2 3, ln a, .inr (.inr (.inr (.inr (fun k => some (X.2.1 (gr a k)))))))) := by rw [ws_at X σ (kd_lt hk (by decide)), hE_refs X σ hk (by decide)]
  exact va_aldq F.1 F.2.1 F.2.2.2.2.2.1.1 hP a 3 hat rfl (hn ▸ hi) hd (k H locs ls hP hS hL)

theorem go_aald104 {a r : Nat} {i : Int32} (hk : kd a = 104) (hg : gr a i.toNatClampNeg = r) {n : Nat} (hn : ln a = n) (hi : vp_in i n) (hd : decode M.2.1 pc = .ok (.aaload, 1)) : Go M d pc L (.int i :: .ref a :: st) σ (pc + 1) (L) (.ref r :: st) (σ) := by
  intro X p l e R s m args below meth c A0 H0 cells slots Q F k H locs ls hP hS hL
  subst hg
  have hat : (ws X σ)[a]? = some (X.2.1 a, .inl (X.2.2 4, ln a, .inr (.inr (.inr (.inr (fun k => some (X.2.1 (gr a k)))))))) := by rw [ws_at X σ (kd_lt hk (by decide)), hE_refs X σ hk (by decide)]
  exact va_aldq F.1 F.2.1 F.2.2.2.2.2.1.1 hP a 4 hat rfl (hn ▸ hi) hd (k H locs ls hP hS hL)

theorem go_iast {a : Nat} {i x : Int32} (hk : kd a = 100) {n : Nat} (hn : ln a = n) (hi : vp_in i n) (hd : decode M.2.1 pc = .ok (.iastore, 1)) : Go M d pc L (.int x :: .int i :: .ref a :: st) σ (pc + 1) (L) (st) (sA σ a (upd (σ.1 a) i.toNatClampNeg (x))) := by
  intro X p l e R s m args below meth c A0 H0 cells slots Q F k H locs ls hP hS hL
  have ha := kd_lt hk (by decide)
  have hat : (ws X σ)[a]? = some (X.2.1 a, .inl (X.2.2 0, ln a, .inl (σ.1 a))) := by rw [ws_at X σ ha, hE_int X σ hk]
  have hset := ws_set X σ (sA σ a (upd (σ.1 a) i.toNatClampNeg (x))) ha (e := .inl (X.2.2 0, ln a, .inl (upd (σ.1 a) i.toNatClampNeg (x)))) (by rw [hE_int X _ hk, sA_at]) (fun q hq => hE_sA_ne X σ a _ hq)
  refine va_iast F.1 F.2.1 F.2.2.2.2.2.1.1 hP (ws_D F.2.2.2.2.2.1.2.2 F.2.2.2.2.2.2.2) hS a 0 hat rfl (hn ▸ hi) hd (fun H1 locs1 h1 _ h3 => ?_)
  exact k H1 locs1 ls (by rw [← hset]; exact h1) h3 hL

theorem go_bast {a : Nat} {i x : Int32} (hk : kd a = 102) {n : Nat} (hn : ln a = n) (hi : vp_in i n) (hd : decode M.2.1 pc = .ok (.bastore, 1)) : Go M d pc L (.int x :: .int i :: .ref a :: st) σ (pc + 1) (L) (st) (sA σ a (upd (σ.1 a) i.toNatClampNeg (x.toInt8.toInt32))) := by
  intro X p l e R s m args below meth c A0 H0 cells slots Q F k H locs ls hP hS hL
  have ha := kd_lt hk (by decide)
  have hat : (ws X σ)[a]? = some (X.2.1 a, .inl (X.2.2 2, ln a, .inl (σ.1 a))) := by rw [ws_at X σ ha, hE_byte X σ hk]
  have hset := ws_set X σ (sA σ a (upd (σ.1 a) i.toNatClampNeg (x.toInt8.toInt32))) ha (e := .inl (X.2.2 2, ln a, .inl (upd (σ.1 a) i.toNatClampNeg (x.toInt8.toInt32)))) (by rw [hE_byte X _ hk, sA_at]) (fun q hq => hE_sA_ne X σ a _ hq)
  refine va_bast F.1 F.2.1 F.2.2.2.2.2.1.1 hP (ws_D F.2.2.2.2.2.1.2.2 F.2.2.2.2.2.2.2) hS a 2 hat rfl (hn ▸ hi) hd (fun H1 locs1 h1 _ h3 => ?_)
  exact k H1 locs1 ls (by rw [← hset]; exact h1) h3 hL

theorem go_last {a : Nat} {i : Int32} {x : Int64} (hk : kd a = 101) {n : Nat} (hn : ln a = n) (hi : vp_in i n) (hd : decode M.2.1 pc = .ok (.lastore, 1)) : Go M d pc L (.long x :: .int i :: .ref a :: st) σ (pc + 1) (L) (st) (sJ σ a (vp_updL (σ.2 a) i.toNatClampNeg x)) := by
  intro X p l e R s m args below meth c A0 H0 cells slots Q F k H locs ls hP hS hL
  have ha := kd_lt hk (by decide)
  have hat : (ws X σ)[a]? = some (X.2.1 a, .inl (X.2.2 1, ln a, .inr (.inl (σ.2 a)))) := by rw [ws_at X σ ha, hE_long X σ hk]
  have hset := ws_set X σ (sJ σ a (vp_updL (σ.2 a) i.toNatClampNeg x)) ha (e := .inl (X.2.2 1, ln a, .inr (.inl (vp_updL (σ.2 a) i.toNatClampNeg x)))) (by rw [hE_long X _ hk, sJ_at]) (fun q hq => hE_sJ_ne X σ a _ hq)
  refine va_last F.1 F.2.1 F.2.2.2.2.2.1.1 hP (ws_D F.2.2.2.2.2.1.2.2 F.2.2.2.2.2.2.2) hS a 1 hat rfl (hn ▸ hi) hd (fun H1 locs1 h1 _ h3 => ?_)
  exact k H1 locs1 ls (by rw [← hset]; exact h1) h3 hL

theorem go_alen100 {a n : Nat} {v : Int32} (hk : kd a = 100) (hn : ln a = n) (hv : Int32.ofNat n = v) (hd : decode M.2.1 pc = .ok (.arraylength, 1)) : Go M d pc L (.ref a :: st) σ (pc + 1) (L) (.int v :: st) (σ) := by
  intro X p l e R s m args below meth c A0 H0 cells slots Q F k H locs ls hP hS hL
  subst hn
  have hat : (ws X σ)[a]? = some (X.2.1 a, .inl (X.2.2 0, ln a, .inl (σ.1 a))) := by rw [ws_at X σ (kd_lt hk (by decide)), hE_int X σ hk]
  exact va_alen F.1 F.2.1 F.2.2.2.2.2.1.1 hP a 0 hat rfl hv hd (k H locs ls hP hS hL)

theorem go_alen101 {a n : Nat} {v : Int32} (hk : kd a = 101) (hn : ln a = n) (hv : Int32.ofNat n = v) (hd : decode M.2.1 pc = .ok (.arraylength, 1)) : Go M d pc L (.ref a :: st) σ (pc + 1) (L) (.int v :: st) (σ) := by
  intro X p l e R s m args below meth c A0 H0 cells slots Q F k H locs ls hP hS hL
  subst hn
  have hat : (ws X σ)[a]? = some (X.2.1 a, .inl (X.2.2 1, ln a, .inr (.inl (σ.2 a)))) := by rw [ws_at X σ (kd_lt hk (by decide)), hE_long X σ hk]
  exact va_alen F.1 F.2.1 F.2.2.2.2.2.1.1 hP a 1 hat rfl hv hd (k H locs ls hP hS hL)

theorem go_alen102 {a n : Nat} {v : Int32} (hk : kd a = 102) (hn : ln a = n) (hv : Int32.ofNat n = v) (hd : decode M.2.1 pc = .ok (.arraylength, 1)) : Go M d pc L (.ref a :: st) σ (pc + 1) (L) (.int v :: st) (σ) := by
  intro X p l e R s m args below meth c A0 H0 cells slots Q F k H locs ls hP hS hL
  subst hn
  have hat : (ws X σ)[a]? = some (X.2.1 a, .inl (X.2.2 2, ln a, .inl (σ.1 a))) := by rw [ws_at X σ (kd_lt hk (by decide)), hE_byte X σ hk]
  exact va_alen F.1 F.2.1 F.2.2.2.2.2.1.1 hP a 2 hat rfl hv hd (k H locs ls hP hS hL)

theorem go_alen103 {a n : Nat} {v : Int32} (hk : kd a = 103) (hn : ln a = n) (hv : Int32.ofNat n = v) (hd : decode M.2.1 pc = .ok (.arraylength, 1)) : Go M d pc L (.ref a :: st) σ (pc + 1) (L) (.int v :: st) (σ) := by
  intro X p l e R s m args below meth c A0 H0 cells slots Q F k H locs ls hP hS hL
  subst hn
  have hat : (ws X σ)[a]? = some (X.2.1 a, .inl (X.2.2 3, ln a, .inr (.inr (.inr (.inr (fun k => some (X.2.1 (gr a k)))))))) := by rw [ws_at X σ (kd_lt hk (by decide)), hE_refs X σ hk (by decide)]
  exact va_alen F.1 F.2.1 F.2.2.2.2.2.1.1 hP a 3 hat rfl hv hd (k H locs ls hP hS hL)

theorem go_alen104 {a n : Nat} {v : Int32} (hk : kd a = 104) (hn : ln a = n) (hv : Int32.ofNat n = v) (hd : decode M.2.1 pc = .ok (.arraylength, 1)) : Go M d pc L (.ref a :: st) σ (pc + 1) (L) (.int v :: st) (σ) := by
  intro X p l e R s m args below meth c A0 H0 cells slots Q F k H locs ls hP hS hL
  subst hn
  have hat : (ws X σ)[a]? = some (X.2.1 a, .inl (X.2.2 4, ln a, .inr (.inr (.inr (.inr (fun k => some (X.2.1 (gr a k)))))))) := by rw [ws_at X σ (kd_lt hk (by decide)), hE_refs X σ hk (by decide)]
  exact va_alen F.1 F.2.1 F.2.2.2.2.2.1.1 hP a 4 hat rfl hv hd (k H locs ls hP hS hL)


def cT (c : Nat) : vw_C := cls.getD c ("", fun _ => ("", "", "", false), 0)
/-- the layout words of a class are among GW; its field types and names -/
def LayOk (c : Nat) : Prop := (∀ w ∈ u_ws (cT c).1 (cT c).2.1 (cT c).2.2, w ∈ GW) ∧ cls[c]? = some (cT c) ∧ (cT c).2.2 = nF c ∧ c < 100 ∧ ∃ ty : Nat → FieldType, (∀ k, k < (cT c).2.2 → parseFieldDescriptor ((cT c).2.1 k).2.2.1 = some (ty k)) ∧ (∀ a, a < (cT c).2.2 → ∀ b, b < (cT c).2.2 → a ≠ b → ((cT c).2.1 a).2.1 ≠ ((cT c).2.1 b).2.1)
def FL (own : String) (i c k : Nat) : Prop := LayOk c ∧ k < nF c ∧ Cond.fieldLink own i ((cT c).2.1 k).1 ((cT c).2.1 k).2.1 ((cT c).2.1 k).2.2.1 ∈ GW
theorem fl_at {X : Cx} {σ : St} {o c k i : Nat} {own : String} (hf : FL own i c k) (hk : kd o = c) : (ws X σ)[o]? = some (X.2.1 o, .inr (c, fsO X σ c o)) := by
  have hc := hf.1.2.2.2.1
  rw [ws_at X σ (kd_lt hk (by omega)), hE_obj X σ hk hc]

theorem go_geti {o c k i : Nat} (hf : FL M.1 i c k) (hr : rF c k = false) (hk : kd o = c) (hd : decode M.2.1 pc = .ok (.getfield i, 3)) : Go M d pc L (.ref o :: st) σ (pc + 3) L (.int (σ.1 o k) :: st) σ := by
  intro X p l e R s m args below meth c A0 H0 cells slots Q F kk H locs ls hP hS hL
  have hat := fl_at (X := X) (σ := σ) hf hk
  obtain ⟨⟨hin, hcl, hN, hc, ty, hty, hnm⟩, hkn, hl⟩ := hf
  exact va_get F.1 F.2.1 F.2.2.2.2.1 hin F.2.2.2.1 F.2.2.2.2.2.1.1 hP o hat hcl k (by rw [hN]; exact hkn) (F.2.2.2.2.1 _ hl) (fun _ h => h) (by rw [fsO_at X σ hkn, hr]; rfl) hd (kk H locs ls hP hS hL)

theorem go_getr {o c k i r : Nat} (hf : FL M.1 i c k) (hr : rF c k = true) (hk : kd o = c) (hg : gr o k = r) (hd : decode M.2.1 pc = .ok (.getfield i, 3)) : Go M d pc L (.ref o :: st) σ (pc + 3) L (.ref r :: st) σ := by
  subst hg
  intro X p l e R s m args below meth c A0 H0 cells slots Q F kk H locs ls hP hS hL
  have hat := fl_at (X := X) (σ := σ) hf hk
  obtain ⟨⟨hin, hcl, hN, hc, ty, hty, hnm⟩, hkn, hl⟩ := hf
  exact va_get F.1 F.2.1 F.2.2.2.2.1 hin F.2.2.2.1 F.2.2.2.2.2.1.1 hP o hat hcl k (by rw [hN]; exact hkn) (F.2.2.2.2.1 _ hl) (fun _ h => h) (by rw [fsO_at X σ hkn, hr]; rfl) hd (kk H locs ls hP hS hL)

theorem go_puti {o c k i : Nat} {x : Int32} {ty1 : FieldType} (hf : FL M.1 i c k) (hr : rF c k = false) (hfin : ((cT c).2.1 k).2.2.2 = false) (ht : parseFieldDescriptor ((cT c).2.1 k).2.2.1 = some ty1) (hn : narrow ty1 (.int x) = .int x) (hfit : fits ty1 (.int x) = true) (hk : kd o = c) (hd : decode M.2.1 pc = .ok (.putfield i, 3)) : Go M d pc L (.int x :: .ref o :: st) σ (pc + 3) L st (sA σ o (upd (σ.1 o) k x)) := by
  intro X p l e R s m args below meth cc A0 H0 cells slots Q F kk H locs ls hP hS hL
  have hat := fl_at (X := X) (σ := σ) hf hk
  obtain ⟨⟨hin, hcl, hN, hc, ty, hty, hnm⟩, hkn, hl⟩ := hf
  have hset := ws_set X σ (sA σ o (upd (σ.1 o) k x)) (kd_lt hk (by omega)) (e := .inr (c, (fsO X σ c o).set k (.int x))) (by rw [hE_obj X _ hk hc, fsO_set X σ hkn hr]) (fun q hq => hE_sA_ne X σ o _ hq)
  refine va_put F.1 F.2.1 F.2.2.2.2.1 hin ty hty hnm F.2.2.2.1 F.2.2.2.2.2.1.1 hP (ws_D F.2.2.2.2.2.1.2.2 F.2.2.2.2.2.2.2) hS o hat hcl k (by rw [hN]; exact hkn) (F.2.2.2.2.1 _ hl) (fun _ h => h) hfin ht hn hfit (by rw [fsO_len]; exact hkn) hd (fun H1 locs1 h1 _ h3 => ?_)
  exact kk H1 locs1 ls (by rw [← hset]; exact h1) h3 hL

def MMok : Prop := Cond.static Lib.Math.max.name ∈ GW ∧ Cond.initialized "java/lang/Math" ∈ GW ∧ Cond.code Lib.Math.max.name Lib.Math.max.code 2 (some .int) ∈ GW ∧ Cond.static Lib.Math.min.name ∈ GW ∧ Cond.code Lib.Math.min.name Lib.Math.min.code 2 (some .int) ∈ GW
theorem go_max (hm : MMok) {i : Nat} {x y : Int32} (hl : Cond.methodLink M.1 i Lib.Math.max.name ∈ GW) (hML : L.length = M.2.2.1) (hst : (st.map fun v => v.category).sum ≤ 8) (hd1 : 1 ≤ d) (hd : decode M.2.1 pc = .ok (.invokestatic i, 3)) : Go M d pc L (.int y :: .int x :: st) σ (pc + 3) L (.int (if x < y then y else x) :: st) σ := by
  intro X p l e R s m args below meth c A0 H0 cells slots Q F k H locs ls hP hS hL
  have hR := F.2.2.2.2.2.2.1
  have hsum : ((st.map (cv X)).map fun v => v.category).sum ≤ 8 := by rw [List.map_map]; simpa [Function.comp_def, cv_cat] using hst
  exact va_mmax F.1 F.2.1 (by rw [F.2.2.1, hL.1, hML]) F.2.2.2.1 (F.2.2.2.2.1 _ hl) (F.2.2.2.2.1 _ hm.1) (F.2.2.2.2.1 _ hm.2.1) (F.2.2.2.2.1 _ hm.2.2.1) (by omega) (by omega) hR.2.2.1 hR.2.2.2 hd (k H locs ls hP hS hL)
theorem go_min (hm : MMok) {i : Nat} {x y : Int32} (hl : Cond.methodLink M.1 i Lib.Math.min.name ∈ GW) (hML : L.length = M.2.2.1) (hst : (st.map fun v => v.category).sum ≤ 8) (hd1 : 1 ≤ d) (hd : decode M.2.1 pc = .ok (.invokestatic i, 3)) : Go M d pc L (.int y :: .int x :: st) σ (pc + 3) L (.int (if y < x then y else x) :: st) σ := by
  intro X p l e R s m args below meth c A0 H0 cells slots Q F k H locs ls hP hS hL
  have hR := F.2.2.2.2.2.2.1
  have hsum : ((st.map (cv X)).map fun v => v.category).sum ≤ 8 := by rw [List.map_map]; simpa [Function.comp_def, cv_cat] using hst
  exact va_mmin F.1 F.2.1 (by rw [F.2.2.1, hL.1, hML]) F.2.2.2.1 (F.2.2.2.2.1 _ hl) (F.2.2.2.2.1 _ hm.2.2.2.1) (F.2.2.2.2.1 _ hm.2.1) (F.2.2.2.2.1 _ hm.2.2.2.2) (by omega) (by omega) hR.2.2.1 hR.2.2.2 hd (k H locs ls hP hS hL)

theorem go_sub {L' : List (Option Value)} (hs : lsub L L') : Go M d pc L (st) σ (pc) (L') (st) (σ) := by
  intro X p l e R s m args below meth c A0 H0 cells slots Q F k H locs ls hP hS hL
  exact k H locs ls hP hS (hL.sub hs)

theorem br_icmp_eq {x y : Int32} {off : Int} (tgt : Nat) (hd : decode M.2.1 pc = .ok (.if_icmp .eq off, 3)) (ht : (pc : Int) + off = (tgt : Int)) : Br M d pc L (.int y :: .int x :: st) σ (x = y) (¬ x = y) tgt (pc + 3) st := by
  intro X p l e R s m args below meth c A0 H0 cells slots Q F kt kf H locs ls hP hS hL
  exact lv_icmp_eq F.1 F.2.1 hd ht (fun q => kt q H locs ls hP hS hL) (fun q => kf q H locs ls hP hS hL)

theorem br_if_eq {x : Int32} {off : Int} (tgt : Nat) (hd : decode M.2.1 pc = .ok (.ifCond .eq off, 3)) (ht : (pc : Int) + off = (tgt : Int)) : Br M d pc L (.int x :: st) σ (x = 0) (¬ x = 0) tgt (pc + 3) st := by
  intro X p l e R s m args below meth c A0 H0 cells slots Q F kt kf H locs ls hP hS hL
  exact lv_if_eq F.1 F.2.1 hd ht (fun q => kt q H locs ls hP hS hL) (fun q => kf q H locs ls hP hS hL)

theorem br_icmp_ne {x y : Int32} {off : Int} (tgt : Nat) (hd : decode M.2.1 pc = .ok (.if_icmp .ne off, 3)) (ht : (pc : Int) + off = (tgt : Int)) : Br M d pc L (.int y :: .int x :: st) σ (¬ x = y) (x = y) tgt (pc + 3) st := by
  intro X p l e R s m args below meth c A0 H0 cells slots Q F kt kf H locs ls hP hS hL
  exact lv_icmp_ne F.1 F.2.1 hd ht (fun q => kt q H locs ls hP hS hL) (fun q => kf q H locs ls hP hS hL)

theorem br_if_ne {x : Int32} {off : Int} (tgt : Nat) (hd : decode M.2.1 pc = .ok (.ifCond .ne off, 3)) (ht : (pc : Int) + off = (tgt : Int)) : Br M d pc L (.int x :: st) σ (¬ x = 0) (x = 0) tgt (pc + 3) st := by
  intro X p l e R s m args below meth c A0 H0 cells slots Q F kt kf H locs ls hP hS hL
  exact lv_if_ne F.1 F.2.1 hd ht (fun q => kt q H locs ls hP hS hL) (fun q => kf q H locs ls hP hS hL)

theorem br_icmp_lt {x y : Int32} {off : Int} (tgt : Nat) (hd : decode M.2.1 pc = .ok (.if_icmp .lt off, 3)) (ht : (pc : Int) + off = (tgt : Int)) : Br M d pc L (.int y :: .int x :: st) σ (x < y) (¬ x < y) tgt (pc + 3) st := by
  intro X p l e R s m args below meth c A0 H0 cells slots Q F kt kf H locs ls hP hS hL
  exact lv_icmp_lt F.1 F.2.1 hd ht (fun q => kt q H locs ls hP hS hL) (fun q => kf q H locs ls hP hS hL)

theorem br_if_lt {x : Int32} {off : Int} (tgt : Nat) (hd : decode M.2.1 pc = .ok (.ifCond .lt off, 3)) (ht : (pc : Int) + off = (tgt : Int)) : Br M d pc L (.int x :: st) σ (x < 0) (¬ x < 0) tgt (pc + 3) st := by
  intro X p l e R s m args below meth c A0 H0 cells slots Q F kt kf H locs ls hP hS hL
  exact lv_if_lt F.1 F.2.1 hd ht (fun q => kt q H locs ls hP hS hL) (fun q => kf q H locs ls hP hS hL)

theorem br_icmp_ge {x y : Int32} {off : Int} (tgt : Nat) (hd : decode M.2.1 pc = .ok (.if_icmp .ge off, 3)) (ht : (pc : Int) + off = (tgt : Int)) : Br M d pc L (.int y :: .int x :: st) σ (y ≤ x) (¬ y ≤ x) tgt (pc + 3) st := by
  intro X p l e R s m args below meth c A0 H0 cells slots Q F kt kf H locs ls hP hS hL
  exact lv_icmp_ge F.1 F.2.1 hd ht (fun q => kt q H locs ls hP hS hL) (fun q => kf q H locs ls hP hS hL)

theorem br_if_ge {x : Int32} {off : Int} (tgt : Nat) (hd : decode M.2.1 pc = .ok (.ifCond .ge off, 3)) (ht : (pc : Int) + off = (tgt : Int)) : Br M d pc L (.int x :: st) σ (0 ≤ x) (¬ 0 ≤ x) tgt (pc + 3) st := by
  intro X p l e R s m args below meth c A0 H0 cells slots Q F kt kf H locs ls hP hS hL
  exact lv_if_ge F.1 F.2.1 hd ht (fun q => kt q H locs ls hP hS hL) (fun q => kf q H locs ls hP hS hL)

theorem br_icmp_gt {x y : Int32} {off : Int} (tgt : Nat) (hd : decode M.2.1 pc = .ok (.if_icmp .gt off, 3)) (ht : (pc : Int) + off = (tgt : Int)) : Br M d pc L (.int y :: .int x :: st) σ (y < x) (¬ y < x) tgt (pc + 3) st := by
  intro X p l e R s m args below meth c A0 H0 cells slots Q F kt kf H locs ls hP hS hL
  exact lv_icmp_gt F.1 F.2.1 hd ht (fun q => kt q H locs ls hP hS hL) (fun q => kf q H locs ls hP hS hL)

theorem br_if_gt {x : Int32} {off : Int} (tgt : Nat) (hd : decode M.2.1 pc = .ok (.ifCond .gt off, 3)) (ht : (pc : Int) + off = (tgt : Int)) : Br M d pc L (.int x :: st) σ (0 < x) (¬ 0 < x) tgt (pc + 3) st := by
  intro X p l e R s m args below meth c A0 H0 cells slots Q F kt kf H locs ls hP hS hL
  exact lv_if_gt F.1 F.2.1 hd ht (fun q => kt q H locs ls hP hS hL) (fun q => kf q H locs ls hP hS hL)

theorem br_icmp_le {x y : Int32} {off : Int} (tgt : Nat) (hd : decode M.2.1 pc = .ok (.if_icmp .le off, 3)) (ht : (pc : Int) + off = (tgt : Int)) : Br M d pc L (.int y :: .int x :: st) σ (x ≤ y) (¬ x ≤ y) tgt (pc + 3) st := by
  intro X p l e R s m args below meth c A0 H0 cells slots Q F kt kf H locs ls hP hS hL
  exact lv_icmp_le F.1 F.2.1 hd ht (fun q => kt q H locs ls hP hS hL) (fun q => kf q H locs ls hP hS hL)

theorem br_if_le {x : Int32} {off : Int} (tgt : Nat) (hd : decode M.2.1 pc = .ok (.ifCond .le off, 3)) (ht : (pc : Int) + off = (tgt : Int)) : Br M d pc L (.int x :: st) σ (x ≤ 0) (¬ x ≤ 0) tgt (pc + 3) st := by
  intro X p l e R s m args below meth c A0 H0 cells slots Q F kt kf H locs ls hP hS hL
  exact lv_if_le F.1 F.2.1 hd ht (fun q => kt q H locs ls hP hS hL) (fun q => kf q H locs ls hP hS hL)

theorem go_tableOut {x : Int32} {dflt lo hi : Int} {offs : Array Int} {len : Nat} (tgt : Nat) (hd : decode M.2.1 pc = .ok (.tableswitch dflt lo hi offs, len)) (h : x.toInt < lo ∨ hi < x.toInt) (ht : (pc : Int) + dflt = (tgt : Int)) : Go M d pc L (.int x :: st) σ tgt L st σ := by
  intro X p l e R s m args below meth c A0 H0 cells slots Q F k H locs ls hP hS hL
  exact lv_tableOut F.1 F.2.1 hd h ht (k H locs ls hP hS hL)
theorem go_tableIn {x : Int32} {dflt lo hi : Int} {offs : Array Int} {len : Nat} {off : Int} (tgt : Nat) (hd : decode M.2.1 pc = .ok (.tableswitch dflt lo hi offs, len)) (h1 : ¬ x.toInt < lo) (h2 : ¬ hi < x.toInt) (ho : offs[(x.toInt - lo).toNat]? = some off) (ht : (pc : Int) + off = (tgt : Int)) : Go M d pc L (.int x :: st) σ tgt L st σ := by
  intro X p l e R s m args below meth c A0 H0 cells slots Q F k H locs ls hP hS hL
  exact lv_tableIn F.1 F.2.1 hd h1 h2 ho ht (k H locs ls hP hS hL)

end SIMV
end
section
section RUNS
/-- the entry's locals -/
def eL : List Value → List (Option Value)
  | [] => []
  | v :: t => if v.category = 2 then some v :: none :: eL t else some v :: eL t
def Le (av : List Value) (n : Nat) : List (Option Value) := eL av ++ List.replicate (n - (eL av).length) none
theorem eL_len (X : Cx) (av : List Value) : (eL av).length = (lg_sl (av.map (cv X))).length := by
  induction av with
  | nil => rfl
  | cons v t ih =>
    have h : (lg_sl ((v :: t).map (cv X))).length = (if v.category = 2 then 2 else 1) + (lg_sl (t.map (cv X))).length := by
      by_cases hc : v.category = 2 <;> simp [lg_sl, cv_cat, hc] <;> omega
    rw [h, ← ih]
    by_cases hc : v.category = 2 <;> simp [eL, hc] <;> omega
theorem eL_at (X : Cx) : ∀ (av : List Value) (k i : Nat) (v : Value), (eL av)[i]? = some (some v) → (k + i, cv X v) ∈ lv_args k (av.map (cv X))
  | [], _, _, _, h => by simp [eL] at h
  | w :: t, k, i, v, h => by
    by_cases hc : w.category = 2
    · simp only [eL, hc, if_true] at h
      match i, h with
      | 0, h => simp at h; subst h; simp [lv_args]
      | 1, h => simp at h
      | i + 2, h =>
        have := eL_at X t (k + 2) i v (by simpa using h)
        simp only [List.map_cons, lv_args, cv_cat, hc, if_true]
        exact List.mem_cons_of_mem _ (by rw [show k + (i + 2) = k + 2 + i by omega]; exact this)
    · simp only [eL, hc, if_false] at h
      match i, h with
      | 0, h => simp at h; subst h; simp [lv_args]
      | i + 1, h =>
        have := eL_at X t (k + 1) i v (by simpa using h)
        simp only [List.map_cons, lv_args, cv_cat, hc, if_false]
        exact List.mem_cons_of_mem _ (by rw [show k + (i + 1) = k + 1 + i by omega]; exact this)
theorem Le_H (X : Cx) (av : List Value) {n : Nat} (h : (eL av).length ≤ n) : lvH X ((lg_sl (av.map (cv X)) ++ List.replicate (n - (lg_sl (av.map (cv X))).length) Slot.unset).toArray) (Le av n) := by
  have e := lv_entry (av.map (cv X)) (n := n) (by rw [← eL_len]; exact h)
  refine ⟨by rw [e.1]; simp [Le]; omega, e.2.1, fun i v hi => ?_⟩
  have hl : (eL av)[i]? = some (some v) := by
    unfold Le at hi
    rcases Nat.lt_or_ge i (eL av).length with q | q
    · rwa [List.getElem?_append_left q] at hi
    · rw [List.getElem?_append_right q] at hi
      simp [List.getElem?_replicate] at hi
  have := e.2.2 _ (eL_at X av 0 i v hl)
  simpa using this
/-- a return instruction that fits the method and the value -/
def rOk (M : Mt) (pc : Nat) (v : Option Value) : Prop := match v with
  | none => M.2.2.2 = none ∧ decode M.2.1 pc = .ok (.return_, 1)
  | some (.int x) => (M.2.2.2 = some .int ∨ (M.2.2.2 = some .boolean ∧ (x = 0 ∨ x = 1))) ∧ decode M.2.1 pc = .ok (.ireturn, 1)
  | some (.long _) => M.2.2.2 = some .long ∧ decode M.2.1 pc = .ok (.lreturn, 1)
  | some (.ref _) => (∃ C, M.2.2.2 = some (.object C)) ∧ decode M.2.1 pc = .ok (.areturn, 1)
  | some .null => (∃ C, M.2.2.2 = some (.object C)) ∧ decode M.2.1 pc = .ok (.areturn, 1)
  | _ => False
/-- from here the method comes to its end, with Q of its answer and of the world then -/
def Run (M : Mt) (d : Nat) (pc : Nat) (L : List (Option Value)) (st : List Value) (σ : St) (Q : Option Value → St → Prop) : Prop :=
  ∀ (X : Cx) (p : Program) (l : Launch) (e : Env) (R : Room) (s : State) (m : MethodId) (args : Array Value) (below : List Frame) (meth : Method) (c : Code) (A0 : Nat → Prop) (H0 : Heap) (cells slots : Nat) (Z : State → Prop), Fx X M d R p s m args c A0 cells slots →
    (∀ (v : Option Value) (σ' : St), Q v σ' → ∀ (pc' : Nat) (L' : List (Option Value)), rOk M pc' v → At X p l e R s m args below meth c A0 H0 cells slots Z pc' L' v.toList σ') →
    At X p l e R s m args below meth c A0 H0 cells slots Z pc L st σ
variable {M : Mt} {d pc pc' pc1 pc2 : Nat} {L L' : List (Option Value)} {st st' : List Value} {σ σ' : St} {Q : Option Value → St → Prop} {q q2 : Prop}
theorem Go.run (h : Go M d pc L st σ pc' L' st' σ') (k : Run M d pc' L' st' σ' Q) : Run M d pc L st σ Q :=
  fun X p l e R s m args below meth c A0 H0 cells slots Z F hq => h X p l e R s m args below meth c A0 H0 cells slots Z F (k X p l e R s m args below meth c A0 H0 cells slots Z F hq)
theorem Br.run (h : Br M d pc L st σ q q2 pc1 pc2 st') (k1 : q → Run M d pc1 L st' σ Q) (k2 : q2 → Run M d pc2 L st' σ Q) : Run M d pc L st σ Q :=
  fun X p l e R s m args below meth c A0 H0 cells slots Z F hq => h X p l e R s m args below meth c A0 H0 cells slots Z F (fun a => k1 a X p l e R s m args below meth c A0 H0 cells slots Z F hq) (fun a => k2 a X p l e R s m args below meth c A0 H0 cells slots Z F hq)
theorem Run.ret {v : Option Value} (h : Q v σ) (hd : rOk M pc v) (hs : v.toList = st) : Run M d pc L st σ Q := by
  subst hs
  exact fun X p l e R s m args below meth c A0 H0 cells slots Z F hq => hq v σ h pc L hd
theorem Run.eq (e1 : L = L') (e2 : st = st') (e3 : σ = σ') (k : Run M d pc L' st' σ' Q) : Run M d pc L st σ Q := by
  subst e1; subst e2; subst e3; exact k
theorem Run.mono {Q2 : Option Value → St → Prop} (k : Run M d pc L st σ Q) (h : ∀ v σ', Q v σ' → Q2 v σ') : Run M d pc L st σ Q2 :=
  fun X p l e R s m args below meth c A0 H0 cells slots Z F hq => k X p l e R s m args below meth c A0 H0 cells slots Z F (fun v σ' a => hq v σ' (h v σ' a))
def cB (X : Cx) (σ : St) (U : State) : Prop := va_P X.1 cls (ws X σ) U.heap ∧ CX X U
def cQ (X : Cx) (Q : Option Value → St → Prop) : Array Value → State → Outcome → State → Prop := fun _ st oc t => ∃ (v : Option Value) (σ' : St), oc = .returned (v.map (cv X)) ∧ Q v σ' ∧ va_P X.1 cls (ws X σ') t.heap ∧ va_F (AX X) st t
/-- a method's contract in the fixed world -/
def Ct (y : MethodName) (M : Mt) (d : Nat) (av : List Value) (σ : St) (Q : Option Value → St → Prop) : Prop :=
  ∀ (Q2 : Option Value → St → Prop), (∀ v σ', Q v σ' → Q2 v σ') → ∀ (l : Launch) (X : Cx), Met l y (Cond.code y M.2.1 M.2.2.1 M.2.2.2 :: GW) (rm d) (va_Pc (av.map (cv X)) (cB X σ)) (cQ X Q2) 0 0 (AX X)
theorem Ct.mono {y : MethodName} {av : List Value} {Q2 : Option Value → St → Prop} (h : Ct y M d av σ Q) (k : ∀ v σ', Q v σ' → Q2 v σ') : Ct y M d av σ Q2 := fun Q3 h3 => h Q3 (fun v σ' a => h3 v σ' (k v σ' a))
theorem Ct.of {y : MethodName} {n : Nat} {av : List Value} (hy : yOk y M n) (hl : (eL av).length ≤ M.2.2.1) (h : Run M d 0 (Le av M.2.2.1) [] σ Q) : Ct y M d av σ Q := by
  intro Q2 hQ2 l X
  have h := h.mono hQ2
  refine Met.ofW (cc := M.2.1) (maxL := M.2.2.1) (ret := M.2.2.2) hy.2.1 rfl ?_
  intro p e s m args below meth c s₁ B hml hv
  obtain ⟨rfl, hP, hC⟩ := hv
  have hts := atoms_spec (ws := Cond.code y M.2.1 M.2.2.1 M.2.2.2 :: GW) B.pre
  have hown : s.vm.findClass M.1 = some m.cls := by rw [hy.2.2.1]; exact findClass_of_methodNamed B.named
  have hr := B.returns
  have hlocks := B.notSynchronized
  have hx := B.exec
  have hb := B.bytes
  have F : Fx X M d (rm d) p s m (av.map (cv X)).toArray c (AX X) 0 0 := ⟨hx, hb, hml, hown, fun w hw => hts w (List.mem_cons_of_mem _ hw), hC, ⟨Nat.le_refl _, Nat.le_refl _, Nat.le_refl _, Nat.le_refl _⟩, fun i hi => ⟨i, hi, rfl⟩⟩
  rw [lg_entry_eq]
  refine h X p l e (rm d) s m _ below meth c (AX X) s.heap 0 0 _ F ?_ s.heap [] _ hP va_S.rf (Le_H X av hl)
  intro v σ' hq pc' L' hd H locs ls hP' hS hL'
  have hQt : ∀ t : State, t.heap = H → s.WarmedH t.vm → cQ X Q2 (av.map (cv X)).toArray s (.returned (v.map (cv X))) t := fun t ht _ => ⟨v, σ', rfl, hq, by rw [ht]; exact hP', hS.F ht⟩
  match v, hd, hQt with
  | none, hd, hQt => exact W.vret hx hb (hr.trans hd.1) hQt hS.2.2 hd.2
  | some (.int x), hd, hQt =>
    rcases hd.1 with h1 | ⟨h1, h2⟩
    · exact W.iret hx hb (hr.trans h1) hQt hS.2.2 hd.2
    · exact W.zret hx hb (hr.trans h1) (by rcases h2 with rfl | rfl <;> rfl) hQt hS.2.2 hd.2
  | some (.long x), hd, hQt => exact W.lret hx hb (hr.trans hd.1) hQt hS.2.2 hd.2
  | some (.ref o), hd, hQt =>
    obtain ⟨⟨C, h1⟩, h2⟩ := hd
    exact W.aret hx hb (hr.trans h1) (Or.inl ⟨_, rfl⟩) (Or.inr ⟨_, rfl⟩) hQt hS.2.2 h2
  | some .null, hd, hQt =>
    obtain ⟨⟨C, h1⟩, h2⟩ := hd
    exact W.aret hx hb (hr.trans h1) (Or.inl ⟨_, rfl⟩) (Or.inl rfl) hQt hS.2.2 h2
/-- behind a call -/
theorem run_back {X : Cx} {p : Program} {l : Launch} {e : Env} {R : Room} {s : State} {m : MethodId} {args : Array Value} {below : List Frame} {meth : Method} {c : Code} {A0 : Nat → Prop} {H0 H : Heap} {cells slots : Nat} {Z : State → Prop} {ls : Array Slot} {st0 rest : List Value} {a : Array Value} {locs : List Loc} {Q1 : Option Value → St → Prop}
    (hr : va_Run p l e R s m args below meth c H locs cells slots 0 0 (F0 m pc ls st0) rest (cQ X Q1 a) (AX X)) (hS : va_S A0 H0 H locs) (hA : ∀ i, i < NC → A0 (X.2.1 i))
    (kk : ∀ (v : Option Value) (σ1 : St) (H1 : Heap) (locs1 : List Loc), Q1 v σ1 → va_P X.1 cls (ws X σ1) H1 → va_S A0 H0 H1 locs1 → W p l e R s m args below meth c H1 locs1 cells slots Z (F0 m (pc + 3) ls ((v.map (cv X)).toList ++ rest))) : W p l e R s m args below meth c H locs cells slots Z (F0 m pc ls st0) := by
  intro T hT X0
  obtain ⟨v, st₀, t, T', L, h0, X', hL, e1, e2, ⟨v1, σ1, hv, hq, hp, hz, hk⟩, st⟩ := hr T hT X0
  cases hv
  rw [h0] at hz hk
  have hAX : ∀ q, AX X q → A0 q := fun q ⟨i, hi, hq⟩ => hq ▸ hA i hi
  obtain ⟨t2, a1, b1⟩ := kk v1 σ1 T'.heap (locs ++ L) hq (by rw [e1]; exact hp)
    ⟨Nat.le_trans hS.1 (by rw [e1]; exact hz), fun q h1 h2 => by rw [e1, hk q (Nat.lt_of_lt_of_le h1 hS.1) (fun z => h2 (hAX q z))]; exact hS.2.1 q h1 h2, fun q hq => by
      rcases List.mem_append.mp hq with h | h
      · exact hS.2.2 q h
      · exact hAX _ (hL q h)⟩ T' rfl X'
  exact ⟨t2, st t2 a1, b1⟩
/-- a link of a method, plain or of a nest mate -/
def Lk (own : String) (i : Nat) (y : MethodName) : Prop := Cond.methodLink own i y ∈ GW ∨ ∃ host, Cond.methodLinkNest own i y host ∈ nestW
theorem gw_code {y : MethodName} {Mc : Mt} (h : Cond.code y Mc.2.1 Mc.2.2.1 Mc.2.2.2 ∈ GW) : GoodIn GW (Cond.code y Mc.2.1 Mc.2.2.1 Mc.2.2.2 :: GW) := fun w hw => by
  rcases List.mem_cons.mp hw with rfl | hw
  · exact gw_good _ h
  · exact gw_good _ hw
theorem cB_blind {X : Cx} {av : List Value} : FrameBlind (va_Pc (av.map (cv X)) (cB X σ)) := fun a U g mk q => by
  obtain ⟨q0, qP, qC⟩ := q
  exact ⟨q0, qP, CX.same (s := U) (U := U.calling g mk a) rfl qC⟩
theorem cB_pre {X : Cx} {av : List Value} {s : State} {H : Heap} (hC : CX X s) (hP : va_P X.1 cls (ws X σ) H) : ∀ U : State, U.heap = H → s.WarmedH U.vm → va_Pc (av.map (cv X)) (cB X σ) (av.map (cv X)).toArray U := fun U hU hW => ⟨rfl, by rw [hU]; exact hP, CX.warm hW hC⟩
theorem Run.callV {y : MethodName} {Mc : Mt} {n i b ci : Nat} {As : List Value} {q : vw_C} (hm : MV y Mc n) (hl : Lk M.1 i y) (hk : kd b = ci) (hci : ci < 100) (hq : cls[ci]? = some q) (hqn : q.1 = y.cls) (hn : As.length = n) (hst : As.reverse ++ .ref b :: st = st') (hML : L.length = M.2.2.1) (hs : (st.map fun v => v.category).sum ≤ 8)
    (hd : decode M.2.1 pc = .ok (.invokevirtual i, 3)) (hc : Ct y Mc d (.ref b :: As) σ (fun v σ1 => Run M (d + 1) (pc + 3) L (v.toList ++ st) σ1 Q)) : Run M (d + 1) pc L st' σ Q := by
  subst hst
  intro X p l e R s m args below meth c A0 H0 cells slots Z F hq' H locs ls hP hS hL
  have hM := hc _ (fun v σ' a => a) l X
  obtain ⟨hy, hini, hcd, hin, hse⟩ := hm
  have hgw := F.2.2.2.2.1
  have hR := F.2.2.2.2.2.2.1
  have hroom : (rm d).frames + 1 ≤ R.frames ∧ 8 + (Mc.2.2.1 + 11) + (rm d).locals ≤ R.locals := ⟨hR.1, by have := hy.2.2.2; show 8 + (Mc.2.2.1 + 11) + 64 * d ≤ R.locals; omega⟩
  have hpre : PreV s H y.cls (X.2.1 b) (va_Pc ((Value.ref b :: As).map (cv X)) (cB X σ)) (As.map (cv X)) := ⟨cB_blind, by rw [← hqn]; exact va_recv F.2.2.2.2.2.1.1 hP hq (by rw [ws_at X σ (kd_lt hk (by omega)), hE_obj X σ hk hci]), cB_pre F.2.2.2.2.2.1 hP⟩
  have hg : decode M.2.1 pc = .ok (.invokevirtual i, 3) := hd
  have hsum : 2 * 0 + ((st.map (cv X)).map fun v => v.category).sum ≤ 8 := by rw [List.map_map]; simpa [Function.comp_def, cv_cat] using hs
  have hfit : cells + 0 ≤ R.cells ∧ slots + 0 ≤ R.slots := ⟨hR.2.2.1, hR.2.2.2⟩
  have hstk : (As.reverse ++ Value.ref b :: st).map (cv X) = (As.map (cv X)).reverse ++ Value.ref (X.2.1 b) :: st.map (cv X) := by simp [cv]
  have hlen : (As.map (cv X)).length = n := by simpa using hn
  have hrun : va_Run p l e R s m args below meth c H locs cells slots 0 0 (F0 m pc ls ((As.reverse ++ Value.ref b :: st).map (cv X))) (st.map (cv X)) (cQ X (fun v σ1 => Run M (d + 1) (pc + 3) L (v.toList ++ st) σ1 Q) (Value.ref (X.2.1 b) :: As.map (cv X)).toArray) (AX X) := by
    rcases hl with hl | ⟨host, hl⟩
    · exact va_runV (cc := M.2.1) (nL := M.2.2.1) (own := M.1) (C := y.cls) ⟨F.1, F.2.1, F.2.2.1, F.2.2.2.1, hgw⟩ hM ⟨callB_of (ws' := GW) n hgw (gw_code hcd) rfl rfl rfl (hgw _ hini) (hgw _ hl) hy.1 hroom, hgw _ hin, hgw _ hse⟩ hpre rfl hlen (hL.1.trans hML) hstk hsum hg hfit
    · exact va_runVN (cc := M.2.1) (nL := M.2.2.1) (own := M.1) (C := y.cls) (host := host) ⟨F.1, F.2.1, F.2.2.1, F.2.2.2.1, hgw⟩ hM ⟨va_cnB (ws' := GW) n hgw (gw_code hcd) rfl rfl rfl (F.2.2.2.2.2.1.2.1 _ hl) (hgw _ hini) hy.1 hroom, hgw _ hin, hgw _ hse⟩ hpre rfl hlen (hL.1.trans hML) hstk hsum hg hfit
  refine run_back hrun hS F.2.2.2.2.2.2.2 (fun v σ1 H1 locs1 h1 hP1 hS1 => ?_)
  have := h1 X p l e R s m args below meth c A0 H0 cells slots Z F hq' H1 locs1 ls hP1 hS1 hL
  rw [List.map_append] at this
  cases v <;> exact this
theorem Run.callS {y : MethodName} {Mc : Mt} {n i : Nat} {As : List Value} (hm : MS y Mc n) (hl : Lk M.1 i y) (hn : As.length = n) (hst : As.reverse ++ st = st') (hML : L.length = M.2.2.1) (hs : (st.map fun v => v.category).sum ≤ 8)
    (hd : decode M.2.1 pc = .ok (.invokestatic i, 3)) (hc : Ct y Mc d As σ (fun v σ1 => Run M (d + 1) (pc + 3) L (v.toList ++ st) σ1 Q)) : Run M (d + 1) pc L st' σ Q := by
  subst hst
  intro X p l e R s m args below meth c A0 H0 cells slots Z F hq' H locs ls hP hS hL
  have hM := hc _ (fun v σ' a => a) l X
  obtain ⟨hy, hini, hcd, hsc⟩ := hm
  have hgw := F.2.2.2.2.1
  have hR := F.2.2.2.2.2.2.1
  have hroom : (rm d).frames + 1 ≤ R.frames ∧ 8 + (Mc.2.2.1 + 11) + (rm d).locals ≤ R.locals := ⟨hR.1, by have := hy.2.2.2; show 8 + (Mc.2.2.1 + 11) + 64 * d ≤ R.locals; omega⟩
  have hpre : PreS s H (va_Pc (As.map (cv X)) (cB X σ)) (As.map (cv X)) := ⟨cB_blind, cB_pre F.2.2.2.2.2.1 hP⟩
  have hg : decode M.2.1 pc = .ok (.invokestatic i, 3) := hd
  have hsum : 2 * 0 + ((st.map (cv X)).map fun v => v.category).sum ≤ 8 := by rw [List.map_map]; simpa [Function.comp_def, cv_cat] using hs
  have hfit : cells + 0 ≤ R.cells ∧ slots + 0 ≤ R.slots := ⟨hR.2.2.1, hR.2.2.2⟩
  have hstk : (As.reverse ++ st).map (cv X) = (As.map (cv X)).reverse ++ st.map (cv X) := by simp
  have hlen : (As.map (cv X)).length = n := by simpa using hn
  have hrun : va_Run p l e R s m args below meth c H locs cells slots 0 0 (F0 m pc ls ((As.reverse ++ st).map (cv X))) (st.map (cv X)) (cQ X (fun v σ1 => Run M (d + 1) (pc + 3) L (v.toList ++ st) σ1 Q) (As.map (cv X)).toArray) (AX X) := by
    rcases hl with hl | ⟨host, hl⟩
    · exact va_runS (cc := M.2.1) (nL := M.2.2.1) (own := M.1) ⟨F.1, F.2.1, F.2.2.1, F.2.2.2.1, hgw⟩ hM ⟨callB_of (ws' := GW) n hgw (gw_code hcd) rfl rfl rfl (hgw _ hini) (hgw _ hl) hy.1 hroom, hgw _ hsc⟩ hpre rfl hlen (hL.1.trans hML) hstk hsum hg hfit
    · exact va_runSN (cc := M.2.1) (nL := M.2.2.1) (own := M.1) (host := host) ⟨F.1, F.2.1, F.2.2.1, F.2.2.2.1, hgw⟩ hM ⟨va_cnB (ws' := GW) n hgw (gw_code hcd) rfl rfl rfl (F.2.2.2.2.2.1.2.1 _ hl) (hgw _ hini) hy.1 hroom, hgw _ hsc, trivial⟩ hpre rfl hlen (hL.1.trans hML) hstk hsum hg hfit
  refine run_back hrun hS F.2.2.2.2.2.2.2 (fun v σ1 H1 locs1 h1 hP1 hS1 => ?_)
  have := h1 X p l e R s m args below meth c A0 H0 cells slots Z F hq' H1 locs1 ls hP1 hS1 hL
  rw [List.map_append] at this
  cases v <;> exact this
end RUNS
end
section
section BASE
theorem lyk0 : ∀ k : Nat, k < 8 → u_lay RX0 TX0 k ∈ GW := fun k hk => match k, hk with
  | 0, _ => gw1 154 rfl rfl
  | 1, _ => gw1 156 rfl rfl
  | 2, _ => gw1 158 rfl rfl
  | 3, _ => gw1 160 rfl rfl
  | 4, _ => gw1 162 rfl rfl
  | 5, _ => gw1 164 rfl rfl
  | 6, _ => gw1 166 rfl rfl
  | 7, _ => gw1 168 rfl rfl
  | j + 8, h => absurd h (by omega)
theorem lay0 : LayOk 0 := ⟨fun w hw => by obtain ⟨k, hk, rfl⟩ := List.mem_map.mp hw; exact lyk0 k (List.mem_range.mp hk), rfl, rfl, by decide, tyX0, tyX0_ok, nmX0⟩
theorem lyk1 : ∀ k : Nat, k < 3 → u_lay RX1 TX1 k ∈ GW := fun k hk => match k, hk with
  | 0, _ => gw1 180 rfl rfl
  | 1, _ => gw1 182 rfl rfl
  | 2, _ => gw1 184 rfl rfl
  | j + 3, h => absurd h (by omega)
theorem lay1 : LayOk 1 := ⟨fun w hw => by obtain ⟨k, hk, rfl⟩ := List.mem_map.mp hw; exact lyk1 k (List.mem_range.mp hk), rfl, rfl, by decide, tyX1, tyX1_ok, nmX1⟩
theorem lyk2 : ∀ k : Nat, k < 5 → u_lay RX2 TX2 k ∈ GW := fun k hk => match k, hk with
  | 0, _ => gw1 127 rfl rfl
  | 1, _ => gw1 129 rfl rfl
  | 2, _ => gw1 131 rfl rfl
  | 3, _ => gw1 133 rfl rfl
  | 4, _ => gw1 135 rfl rfl
  | j + 5, h => absurd h (by omega)
theorem lay2 : LayOk 2 := ⟨fun w hw => by obtain ⟨k, hk, rfl⟩ := List.mem_map.mp hw; exact lyk2 k (List.mem_range.mp hk), rfl, rfl, by decide, tyX2, tyX2_ok, nmX2⟩
theorem lyk3 : ∀ k : Nat, k < 4 → u_lay RX3 TX3 k ∈ GW := fun k hk => match k, hk with
  | 0, _ => gw1 200 rfl rfl
  | 1, _ => gw1 202 rfl rfl
  | 2, _ => gw1 204 rfl rfl
  | 3, _ => gw1 206 rfl rfl
  | j + 4, h => absurd h (by omega)
theorem lay3 : LayOk 3 := ⟨fun w hw => by obtain ⟨k, hk, rfl⟩ := List.mem_map.mp hw; exact lyk3 k (List.mem_range.mp hk), rfl, rfl, by decide, tyX3, tyX3_ok, nmX3⟩
theorem lyk4 : ∀ k : Nat, k < 7 → u_lay RX4 TX4 k ∈ GW := fun k hk => match k, hk with
  | 0, _ => gw1 96 rfl rfl
  | 1, _ => gw1 98 rfl rfl
  | 2, _ => gw1 100 rfl rfl
  | 3, _ => gw1 102 rfl rfl
  | 4, _ => gw1 104 rfl rfl
  | 5, _ => gw1 106 rfl rfl
  | 6, _ => gw1 108 rfl rfl
  | j + 7, h => absurd h (by omega)
theorem lay4 : LayOk 4 := ⟨fun w hw => by obtain ⟨k, hk, rfl⟩ := List.mem_map.mp hw; exact lyk4 k (List.mem_range.mp hk), rfl, rfl, by decide, tyX4, tyX4_ok, nmX4⟩
theorem lyk5 : ∀ k : Nat, k < 4 → u_lay RX6 TX6 k ∈ GW := fun k hk => match k, hk with
  | 0, _ => gw1 233 rfl rfl
  | 1, _ => gw1 235 rfl rfl
  | 2, _ => gw1 237 rfl rfl
  | 3, _ => gw1 239 rfl rfl
  | j + 4, h => absurd h (by omega)
theorem lay5 : LayOk 5 := ⟨fun w hw => by obtain ⟨k, hk, rfl⟩ := List.mem_map.mp hw; exact lyk5 k (List.mem_range.mp hk), rfl, rfl, by decide, tyX6, tyX6_ok, nmX6⟩
theorem lyk6 : ∀ k : Nat, k < 3 → u_lay RX7 TX7 k ∈ GW := fun k hk => match k, hk with
  | 0, _ => gw2 11 rfl rfl
  | 1, _ => gw2 13 rfl rfl
  | 2, _ => gw2 15 rfl rfl
  | j + 3, h => absurd h (by omega)
theorem lay6 : LayOk 6 := ⟨fun w hw => by obtain ⟨k, hk, rfl⟩ := List.mem_map.mp hw; exact lyk6 k (List.mem_range.mp hk), rfl, rfl, by decide, tyX7, tyX7_ok, nmX7⟩
theorem lyk7 : ∀ k : Nat, k < 4 → u_lay RX8 TX8 k ∈ GW := fun k hk => match k, hk with
  | 0, _ => gw1 66 rfl rfl
  | 1, _ => gw1 68 rfl rfl
  | 2, _ => gw1 70 rfl rfl
  | 3, _ => gw1 72 rfl rfl
  | j + 4, h => absurd h (by omega)
theorem lay7 : LayOk 7 := ⟨fun w hw => by obtain ⟨k, hk, rfl⟩ := List.mem_map.mp hw; exact lyk7 k (List.mem_range.mp hk), rfl, rfl, by decide, tyX8, tyX8_ok, nmX8⟩
theorem lyk8 : ∀ k : Nat, k < 7 → u_lay RX9 TX9 k ∈ GW := fun k hk => match k, hk with
  | 0, _ => gw1 40 rfl rfl
  | 1, _ => gw1 42 rfl rfl
  | 2, _ => gw1 44 rfl rfl
  | 3, _ => gw1 46 rfl rfl
  | 4, _ => gw1 48 rfl rfl
  | 5, _ => gw1 50 rfl rfl
  | 6, _ => gw1 52 rfl rfl
  | j + 7, h => absurd h (by omega)
theorem lay8 : LayOk 8 := ⟨fun w hw => by obtain ⟨k, hk, rfl⟩ := List.mem_map.mp hw; exact lyk8 k (List.mem_range.mp hk), rfl, rfl, by decide, tyX9, tyX9_ok, nmX9⟩
theorem lyk9 : ∀ k : Nat, k < 12 → u_lay RX10 TX10 k ∈ GW := fun k hk => match k, hk with
  | 0, _ => gw2 30 rfl rfl
  | 1, _ => gw2 32 rfl rfl
  | 2, _ => gw2 34 rfl rfl
  | 3, _ => gw2 36 rfl rfl
  | 4, _ => gw2 38 rfl rfl
  | 5, _ => gw2 40 rfl rfl
  | 6, _ => gw2 42 rfl rfl
  | 7, _ => gw2 44 rfl rfl
  | 8, _ => gw2 46 rfl rfl
  | 9, _ => gw2 48 rfl rfl
  | 10, _ => gw2 50 rfl rfl
  | 11, _ => gw2 52 rfl rfl
  | j + 12, h => absurd h (by omega)
theorem lay9 : LayOk 9 := ⟨fun w hw => by obtain ⟨k, hk, rfl⟩ := List.mem_map.mp hw; exact lyk9 k (List.mem_range.mp hk), rfl, rfl, by decide, tyX10, tyX10_ok, nmX10⟩
theorem lyk10 : ∀ k : Nat, k < 38 → u_lay RX11 TX11 k ∈ GW := fun k hk => match k, hk with
  | 0, _ => gw4 173 rfl rfl
  | 1, _ => gw4 175 rfl rfl
  | 2, _ => gw4 177 rfl rfl
  | 3, _ => gw4 179 rfl rfl
  | 4, _ => gw4 181 rfl rfl
  | 5, _ => gw4 183 rfl rfl
  | 6, _ => gw4 185 rfl rfl
  | 7, _ => gw4 187 rfl rfl
  | 8, _ => gw4 189 rfl rfl
  | 9, _ => gw4 191 rfl rfl
  | 10, _ => gw4 193 rfl rfl
  | 11, _ => gw4 195 rfl rfl
  | 12, _ => gw4 197 rfl rfl
  | 13, _ => gw4 199 rfl rfl
  | 14, _ => gw4 201 rfl rfl
  | 15, _ => gw4 203 rfl rfl
  | 16, _ => gw4 205 rfl rfl
  | 17, _ => gw4 207 rfl rfl
  | 18, _ => gw4 209 rfl rfl
  | 19, _ => gw4 211 rfl rfl
  | 20, _ => gw4 213 rfl rfl
  | 21, _ => gw4 215 rfl rfl
  | 22, _ => gw4 217 rfl rfl
  | 23, _ => gw4 219 rfl rfl
  | 24, _ => gw4 221 rfl rfl
  | 25, _ => gw4 223 rfl rfl
  | 26, _ => gw4 225 rfl rfl
  | 27, _ => gw4 227 rfl rfl
  | 28, _ => gw4 229 rfl rfl
  | 29, _ => gw4 231 rfl rfl
  | 30, _ => gw4 233 rfl rfl
  | 31, _ => gw4 235 rfl rfl
  | 32, _ => gw4 237 rfl rfl
  | 33, _ => gw4 239 rfl rfl
  | 34, _ => gw5 1 rfl rfl
  | 35, _ => gw5 3 rfl rfl
  | 36, _ => gw5 5 rfl rfl
  | 37, _ => gw5 7 rfl rfl
  | j + 38, h => absurd h (by omega)
theorem lay10 : LayOk 10 := ⟨fun w hw => by obtain ⟨k, hk, rfl⟩ := List.mem_map.mp hw; exact lyk10 k (List.mem_range.mp hk), rfl, rfl, by decide, tyX11, tyX11_ok, nmX11⟩
theorem flX9_15 : FL RX9 15 8 0 := ⟨lay8, by decide, gw1 31 rfl rfl⟩
theorem flX10_83 : FL RX10 83 8 0 := ⟨lay8, by decide, gw1 32 rfl rfl⟩
theorem flX9_19 : FL RX9 19 8 1 := ⟨lay8, by decide, gw1 33 rfl rfl⟩
theorem flX10_102 : FL RX10 102 8 1 := ⟨lay8, by decide, gw1 34 rfl rfl⟩
theorem flX9_9 : FL RX9 9 8 2 := ⟨lay8, by decide, gw1 35 rfl rfl⟩
theorem flX9_22 : FL RX9 22 8 3 := ⟨lay8, by decide, gw1 36 rfl rfl⟩
theorem flX9_28 : FL RX9 28 8 4 := ⟨lay8, by decide, gw1 37 rfl rfl⟩
theorem flX9_52 : FL RX9 52 8 5 := ⟨lay8, by decide, gw1 38 rfl rfl⟩
theorem flX9_35 : FL RX9 35 8 6 := ⟨lay8, by decide, gw1 39 rfl rfl⟩
theorem flX8_21 : FL RX8 21 7 0 := ⟨lay7, by decide, gw1 62 rfl rfl⟩
theorem flX8_9 : FL RX8 9 7 1 := ⟨lay7, by decide, gw1 63 rfl rfl⟩
theorem flX8_15 : FL RX8 15 7 2 := ⟨lay7, by decide, gw1 64 rfl rfl⟩
theorem flX8_18 : FL RX8 18 7 3 := ⟨lay7, by decide, gw1 65 rfl rfl⟩
theorem flX4_22 : FL RX4 22 4 0 := ⟨lay4, by decide, gw1 84 rfl rfl⟩
theorem flX10_143 : FL RX10 143 4 0 := ⟨lay4, by decide, gw1 85 rfl rfl⟩
theorem flX4_26 : FL RX4 26 4 1 := ⟨lay4, by decide, gw1 86 rfl rfl⟩
theorem flX10_150 : FL RX10 150 4 1 := ⟨lay4, by decide, gw1 87 rfl rfl⟩
theorem flX4_29 : FL RX4 29 4 2 := ⟨lay4, by decide, gw1 88 rfl rfl⟩
theorem flX10_153 : FL RX10 153 4 2 := ⟨lay4, by decide, gw1 89 rfl rfl⟩
theorem flX4_32 : FL RX4 32 4 3 := ⟨lay4, by decide, gw1 90 rfl rfl⟩
theorem flX10_156 : FL RX10 156 4 3 := ⟨lay4, by decide, gw1 91 rfl rfl⟩
theorem flX4_35 : FL RX4 35 4 4 := ⟨lay4, by decide, gw1 92 rfl rfl⟩
theorem flX10_159 : FL RX10 159 4 4 := ⟨lay4, by decide, gw1 93 rfl rfl⟩
theorem flX4_12 : FL RX4 12 4 5 := ⟨lay4, by decide, gw1 94 rfl rfl⟩
theorem flX4_18 : FL RX4 18 4 6 := ⟨lay4, by decide, gw1 95 rfl rfl⟩
theorem flX2_9 : FL RX2 9 2 0 := ⟨lay2, by decide, gw1 119 rfl rfl⟩
theorem flX10_175 : FL RX10 175 2 0 := ⟨lay2, by decide, gw1 120 rfl rfl⟩
theorem flX2_15 : FL RX2 15 2 1 := ⟨lay2, by decide, gw1 121 rfl rfl⟩
theorem flX10_178 : FL RX10 178 2 1 := ⟨lay2, by decide, gw1 122 rfl rfl⟩
theorem flX2_18 : FL RX2 18 2 2 := ⟨lay2, by decide, gw1 123 rfl rfl⟩
theorem flX10_181 : FL RX10 181 2 2 := ⟨lay2, by decide, gw1 124 rfl rfl⟩
theorem flX2_22 : FL RX2 22 2 3 := ⟨lay2, by decide, gw1 125 rfl rfl⟩
theorem flX2_28 : FL RX2 28 2 4 := ⟨lay2, by decide, gw1 126 rfl rfl⟩
theorem flX0_43 : FL RX0 43 0 0 := ⟨lay0, by decide, gw1 144 rfl rfl⟩
theorem flX10_220 : FL RX10 220 0 0 := ⟨lay0, by decide, gw1 145 rfl rfl⟩
theorem flX0_40 : FL RX0 40 0 1 := ⟨lay0, by decide, gw1 146 rfl rfl⟩
theorem flX10_223 : FL RX10 223 0 1 := ⟨lay0, by decide, gw1 147 rfl rfl⟩
theorem flX0_18 : FL RX0 18 0 2 := ⟨lay0, by decide, gw1 148 rfl rfl⟩
theorem flX0_22 : FL RX0 22 0 3 := ⟨lay0, by decide, gw1 149 rfl rfl⟩
theorem flX0_25 : FL RX0 25 0 4 := ⟨lay0, by decide, gw1 150 rfl rfl⟩
theorem flX0_9 : FL RX0 9 0 5 := ⟨lay0, by decide, gw1 151 rfl rfl⟩
theorem flX0_15 : FL RX0 15 0 6 := ⟨lay0, by decide, gw1 152 rfl rfl⟩
theorem flX0_28 : FL RX0 28 0 7 := ⟨lay0, by decide, gw1 153 rfl rfl⟩
theorem flX1_11 : FL RX1 11 1 0 := ⟨lay1, by decide, gw1 177 rfl rfl⟩
theorem flX1_32 : FL RX1 32 1 1 := ⟨lay1, by decide, gw1 178 rfl rfl⟩
theorem flX1_43 : FL RX1 43 1 2 := ⟨lay1, by decide, gw1 179 rfl rfl⟩
theorem flX3_27 : FL RX3 27 3 0 := ⟨lay3, by decide, gw1 193 rfl rfl⟩
theorem flX10_282 : FL RX10 282 3 0 := ⟨lay3, by decide, gw1 194 rfl rfl⟩
theorem flX3_31 : FL RX3 31 3 1 := ⟨lay3, by decide, gw1 195 rfl rfl⟩
theorem flX10_289 : FL RX10 289 3 1 := ⟨lay3, by decide, gw1 196 rfl rfl⟩
theorem flX3_34 : FL RX3 34 3 2 := ⟨lay3, by decide, gw1 197 rfl rfl⟩
theorem flX10_292 : FL RX10 292 3 2 := ⟨lay3, by decide, gw1 198 rfl rfl⟩
theorem flX3_9 : FL RX3 9 3 3 := ⟨lay3, by decide, gw1 199 rfl rfl⟩
theorem flX6_22 : FL RX6 22 5 0 := ⟨lay5, by decide, gw1 219 rfl rfl⟩
theorem flX2_32 : FL RX2 32 5 0 := ⟨lay5, by decide, gw1 220 rfl rfl⟩
theorem flX4_38 : FL RX4 38 5 0 := ⟨lay5, by decide, gw1 221 rfl rfl⟩
theorem flX5_32 : FL RX5 32 5 0 := ⟨lay5, by decide, gw1 222 rfl rfl⟩
theorem flX9_55 : FL RX9 55 5 0 := ⟨lay5, by decide, gw1 223 rfl rfl⟩
theorem flX10_130 : FL RX10 130 5 0 := ⟨lay5, by decide, gw1 224 rfl rfl⟩
theorem flX6_26 : FL RX6 26 5 1 := ⟨lay5, by decide, gw1 225 rfl rfl⟩
theorem flX4_47 : FL RX4 47 5 1 := ⟨lay5, by decide, gw1 226 rfl rfl⟩
theorem flX2_49 : FL RX2 49 5 1 := ⟨lay5, by decide, gw1 227 rfl rfl⟩
theorem flX10_118 : FL RX10 118 5 1 := ⟨lay5, by decide, gw1 228 rfl rfl⟩
theorem flX6_12 : FL RX6 12 5 2 := ⟨lay5, by decide, gw1 229 rfl rfl⟩
theorem flX9_58 : FL RX9 58 5 2 := ⟨lay5, by decide, gw1 230 rfl rfl⟩
theorem flX10_133 : FL RX10 133 5 2 := ⟨lay5, by decide, gw1 231 rfl rfl⟩
theorem flX6_18 : FL RX6 18 5 3 := ⟨lay5, by decide, gw1 232 rfl rfl⟩
theorem flX7_19 : FL RX7 19 6 0 := ⟨lay6, by decide, gw2 7 rfl rfl⟩
theorem flX10_353 : FL RX10 353 6 0 := ⟨lay6, by decide, gw2 8 rfl rfl⟩
theorem flX7_9 : FL RX7 9 6 1 := ⟨lay6, by decide, gw2 9 rfl rfl⟩
theorem flX7_15 : FL RX7 15 6 2 := ⟨lay6, by decide, gw2 10 rfl rfl⟩
theorem flX10_11 : FL RX10 11 9 0 := ⟨lay9, by decide, gw2 18 rfl rfl⟩
theorem flX10_111 : FL RX10 111 9 1 := ⟨lay9, by decide, gw2 19 rfl rfl⟩
theorem flX10_18 : FL RX10 18 9 2 := ⟨lay9, by decide, gw2 20 rfl rfl⟩
theorem flX10_25 : FL RX10 25 9 3 := ⟨lay9, by decide, gw2 21 rfl rfl⟩
theorem flX10_32 : FL RX10 32 9 4 := ⟨lay9, by decide, gw2 22 rfl rfl⟩
theorem flX10_39 : FL RX10 39 9 5 := ⟨lay9, by decide, gw2 23 rfl rfl⟩
theorem flX10_46 : FL RX10 46 9 6 := ⟨lay9, by decide, gw2 24 rfl rfl⟩
theorem flX10_53 : FL RX10 53 9 7 := ⟨lay9, by decide, gw2 25 rfl rfl⟩
theorem flX10_57 : FL RX10 57 9 8 := ⟨lay9, by decide, gw2 26 rfl rfl⟩
theorem flX10_64 : FL RX10 64 9 9 := ⟨lay9, by decide, gw2 27 rfl rfl⟩
theorem flX10_68 : FL RX10 68 9 10 := ⟨lay9, by decide, gw2 28 rfl rfl⟩
theorem flX10_73 : FL RX10 73 9 11 := ⟨lay9, by decide, gw2 29 rfl rfl⟩
theorem flX11_106 : FL RX11 106 10 0 := ⟨lay10, by decide, gw4 135 rfl rfl⟩
theorem flX11_7 : FL RX11 7 10 1 := ⟨lay10, by decide, gw4 136 rfl rfl⟩
theorem flX11_13 : FL RX11 13 10 2 := ⟨lay10, by decide, gw4 137 rfl rfl⟩
theorem flX11_16 : FL RX11 16 10 3 := ⟨lay10, by decide, gw4 138 rfl rfl⟩
theorem flX11_20 : FL RX11 20 10 4 := ⟨lay10, by decide, gw4 139 rfl rfl⟩
theorem flX11_24 : FL RX11 24 10 5 := ⟨lay10, by decide, gw4 140 rfl rfl⟩
theorem flX11_27 : FL RX11 27 10 6 := ⟨lay10, by decide, gw4 141 rfl rfl⟩
theorem flX11_30 : FL RX11 30 10 7 := ⟨lay10, by decide, gw4 142 rfl rfl⟩
theorem flX11_33 : FL RX11 33 10 8 := ⟨lay10, by decide, gw4 143 rfl rfl⟩
theorem flX11_36 : FL RX11 36 10 9 := ⟨lay10, by decide, gw4 144 rfl rfl⟩
theorem flX11_113 : FL RX11 113 10 10 := ⟨lay10, by decide, gw4 145 rfl rfl⟩
theorem flX11_127 : FL RX11 127 10 11 := ⟨lay10, by decide, gw4 146 rfl rfl⟩
theorem flX11_121 : FL RX11 121 10 12 := ⟨lay10, by decide, gw4 147 rfl rfl⟩
theorem flX11_134 : FL RX11 134 10 13 := ⟨lay10, by decide, gw4 148 rfl rfl⟩
theorem flX11_141 : FL RX11 141 10 14 := ⟨lay10, by decide, gw4 149 rfl rfl⟩
theorem flX11_118 : FL RX11 118 10 15 := ⟨lay10, by decide, gw4 150 rfl rfl⟩
theorem flX11_124 : FL RX11 124 10 16 := ⟨lay10, by decide, gw4 151 rfl rfl⟩
theorem flX11_39 : FL RX11 39 10 17 := ⟨lay10, by decide, gw4 152 rfl rfl⟩
theorem flX11_42 : FL RX11 42 10 18 := ⟨lay10, by decide, gw4 153 rfl rfl⟩
theorem flX11_45 : FL RX11 45 10 19 := ⟨lay10, by decide, gw4 154 rfl rfl⟩
theorem flX11_48 : FL RX11 48 10 20 := ⟨lay10, by decide, gw4 155 rfl rfl⟩
theorem flX11_51 : FL RX11 51 10 21 := ⟨lay10, by decide, gw4 156 rfl rfl⟩
theorem flX11_55 : FL RX11 55 10 22 := ⟨lay10, by decide, gw4 157 rfl rfl⟩
theorem flX11_58 : FL RX11 58 10 23 := ⟨lay10, by decide, gw4 158 rfl rfl⟩
theorem flX11_209 : FL RX11 209 10 24 := ⟨lay10, by decide, gw4 159 rfl rfl⟩
theorem flX11_61 : FL RX11 61 10 25 := ⟨lay10, by decide, gw4 160 rfl rfl⟩
theorem flX11_64 : FL RX11 64 10 26 := ⟨lay10, by decide, gw4 161 rfl rfl⟩
theorem flX11_67 : FL RX11 67 10 27 := ⟨lay10, by decide, gw4 162 rfl rfl⟩
theorem flX11_70 : FL RX11 70 10 28 := ⟨lay10, by decide, gw4 163 rfl rfl⟩
theorem flX11_73 : FL RX11 73 10 29 := ⟨lay10, by decide, gw4 164 rfl rfl⟩
theorem flX11_76 : FL RX11 76 10 30 := ⟨lay10, by decide, gw4 165 rfl rfl⟩
theorem flX11_79 : FL RX11 79 10 31 := ⟨lay10, by decide, gw4 166 rfl rfl⟩
theorem flX11_271 : FL RX11 271 10 32 := ⟨lay10, by decide, gw4 167 rfl rfl⟩
theorem flX11_274 : FL RX11 274 10 33 := ⟨lay10, by decide, gw4 168 rfl rfl⟩
theorem flX11_277 : FL RX11 277 10 34 := ⟨lay10, by decide, gw4 169 rfl rfl⟩
theorem flX11_82 : FL RX11 82 10 35 := ⟨lay10, by decide, gw4 170 rfl rfl⟩
theorem flX11_85 : FL RX11 85 10 36 := ⟨lay10, by decide, gw4 171 rfl rfl⟩
theorem flX11_88 : FL RX11 88 10 37 := ⟨lay10, by decide, gw4 172 rfl rfl⟩
theorem lkX10_79 : Lk RX10 79 yX9_append := Or.inl (gw2 59 rfl rfl)
theorem lkX10_87 : Lk RX10 87 yX10_freeNet := Or.inl (gw2 71 rfl rfl)
theorem lkX10_91 : Lk RX10 91 yX9_tells := Or.inl (gw2 75 rfl rfl)
theorem lkX9_25 : Lk RX9 25 yX9_readToken := Or.inl (gw2 79 rfl rfl)
theorem lkX9_71 : Lk RX9 71 yX9_byteAt := Or.inl (gw2 83 rfl rfl)
theorem lkX9_75 : Lk RX9 75 yX9_isFigure := Or.inl (gw2 87 rfl rfl)
theorem lkX9_78 : Lk RX9 78 yX9_readNumber := Or.inl (gw2 90 rfl rfl)
theorem lkX9_81 : Cond.methodLink RX9 81 Lib.Math.min.name ∈ GW := gw2 94 rfl rfl
theorem lkX9_31 : Lk RX9 31 yX9_refuseToken := Or.inl (gw2 97 rfl rfl)
theorem lkX9_38 : Lk RX9 38 yX9_refuse := Or.inl (gw2 101 rfl rfl)
theorem lkX9_42 : Lk RX9 42 yX6_begin := Or.inl (gw2 105 rfl rfl)
theorem lkX6_29 : Lk RX6 29 yX8_begin := Or.inl (gw2 109 rfl rfl)
theorem lkX8_25 : Lk RX8 25 yX10_put := Or.inr ⟨"CarryNets", nw (ts2 113 rfl) rfl⟩
theorem lkX9_48 : Lk RX9 48 yX9_readRow := Or.inl (gw2 116 rfl rfl)
theorem lkX9_62 : Lk RX9 62 yX8_openPlaces := Or.inl (gw2 120 rfl rfl)
theorem lkX8_29 : Lk RX8 29 yX10_at := Or.inr ⟨"CarryNets", nw (ts2 124 rfl) rfl⟩
theorem lkX9_68 : Lk RX9 68 yX6_addRow := Or.inl (gw2 127 rfl rfl)
theorem lkX6_33 : Lk RX6 33 yX8_openPlaces := Or.inl (gw2 131 rfl rfl)
theorem lkX6_37 : Lk RX6 37 yX10_put := Or.inr ⟨"CarryNets", nw (ts2 132 rfl) rfl⟩
theorem lkX6_41 : Lk RX6 41 yX8_join := Or.inl (gw2 133 rfl rfl)
theorem lkX10_95 : Lk RX10 95 yX10_keepNet := Or.inl (gw2 137 rfl rfl)
theorem lkX10_99 : Lk RX10 99 yX9_faultPlace := Or.inl (gw2 141 rfl rfl)
theorem lkX10_105 : Lk RX10 105 yX5_fill := Or.inl (gw2 153 rfl rfl)
theorem lkX5_9 : Lk RX5 9 yX6_begin := Or.inl (gw2 156 rfl rfl)
theorem lkX5_15 : Lk RX5 15 yX5_oneByOne := Or.inl (gw2 157 rfl rfl)
theorem lkX5_28 : Lk RX5 28 yX5_addRow := Or.inl (gw2 160 rfl rfl)
theorem lkX5_36 : Lk RX5 36 yX5_hasCell := Or.inl (gw2 163 rfl rfl)
theorem lkX5_40 : Lk RX5 40 yX6_addRow := Or.inl (gw2 166 rfl rfl)
theorem lkX5_21 : Lk RX5 21 yX5_doubling := Or.inl (gw2 167 rfl rfl)
theorem lkX5_25 : Lk RX5 25 yX5_upAndDown := Or.inl (gw2 170 rfl rfl)
theorem lkX10_114 : Lk RX10 114 yX10_netNumbered := Or.inl (gw2 181 rfl rfl)
theorem lkX10_121 : Lk RX10 121 yX6_row := Or.inl (gw2 185 rfl rfl)
theorem lkX6_44 : Lk RX6 44 yX10_at := Or.inr ⟨"CarryNets", nw (ts2 189 rfl) rfl⟩
theorem lkX10_125 : Lk RX10 125 yJ6_bitCount_0f7a4 := Or.inl (gw2 190 rfl rfl)
theorem lkX10_136 : Lk RX10 136 yX8_lowOf := Or.inl (gw2 196 rfl rfl)
theorem lkX10_139 : Lk RX10 139 yX4_look := Or.inl (gw2 200 rfl rfl)
theorem lkX4_43 : Lk RX4 43 yX8_begin := Or.inl (gw2 204 rfl rfl)
theorem lkX4_50 : Lk RX4 50 yX6_row := Or.inl (gw2 205 rfl rfl)
theorem lkX4_54 : Lk RX4 54 yX8_join := Or.inl (gw2 206 rfl rfl)
theorem lkX4_57 : Lk RX4 57 yX4_lookAtCells := Or.inl (gw2 207 rfl rfl)
theorem lkX4_63 : Lk RX4 63 yX8_loadOf := Or.inl (gw2 211 rfl rfl)
theorem lkX4_66 : Cond.methodLink RX4 66 Lib.Math.max.name ∈ GW := gw2 215 rfl rfl
theorem lkX4_72 : Lk RX4 72 yX8_takenBy := Or.inl (gw2 218 rfl rfl)
theorem lkX4_75 : Lk RX4 75 yX10_at := Or.inr ⟨"CarryNets", nw (ts2 222 rfl) rfl⟩
theorem lkX4_79 : Lk RX4 79 yX10_put := Or.inr ⟨"CarryNets", nw (ts2 223 rfl) rfl⟩
theorem lkX4_60 : Lk RX4 60 yX4_lookAtTracks := Or.inl (gw2 224 rfl rfl)
theorem lkX10_146 : Lk RX10 146 yX8_whole := Or.inl (gw2 228 rfl rfl)
theorem lkX8_33 : Lk RX8 33 yX8_openPlaces := Or.inl (gw2 232 rfl rfl)
theorem lkX10_162 : Lk RX10 162 yX8_begin := Or.inl (gw2 237 rfl rfl)
theorem lkX10_166 : Lk RX10 166 yX8_join := Or.inl (gw2 238 rfl rfl)
theorem lkX10_169 : Lk RX10 169 yX8_takenBy := Or.inl (gw2 239 rfl rfl)
theorem lkX10_172 : Lk RX10 172 yX8_loadOf := Or.inl (gw3 0 rfl rfl)
theorem lkX10_185 : Lk RX10 185 yX10_at := Or.inl (gw3 9 rfl rfl)
theorem lkX10_189 : Lk RX10 189 yX10_put := Or.inl (gw3 10 rfl rfl)
theorem lkX10_193 : Lk RX10 193 yX2_follow := Or.inl (gw3 15 rfl rfl)
theorem lkX2_37 : Lk RX2 37 yX10_at := Or.inr ⟨"CarryNets", nw (ts3 19 rfl) rfl⟩
theorem lkX2_41 : Lk RX2 41 yX10_put := Or.inr ⟨"CarryNets", nw (ts3 20 rfl) rfl⟩
theorem lkX2_45 : Lk RX2 45 yX8_begin := Or.inl (gw3 21 rfl rfl)
theorem lkX2_52 : Lk RX2 52 yX6_row := Or.inl (gw3 22 rfl rfl)
theorem lkX2_56 : Lk RX2 56 yX8_join := Or.inl (gw3 23 rfl rfl)
theorem lkX2_59 : Lk RX2 59 yX2_passRow := Or.inl (gw3 24 rfl rfl)
theorem lkX2_71 : Lk RX2 71 yX8_takenBy := Or.inl (gw3 28 rfl rfl)
theorem lkX2_62 : Lk RX2 62 yX2_readyAt := Or.inl (gw3 29 rfl rfl)
theorem lkX2_65 : Cond.methodLink RX2 65 Lib.Math.max.name ∈ GW := gw3 33 rfl rfl
theorem lkX2_74 : Lk RX2 74 yX8_loadOf := Or.inl (gw3 34 rfl rfl)
theorem lkX10_196 : Lk RX10 196 yX2_latest := Or.inl (gw3 35 rfl rfl)
theorem lkX10_199 : Lk RX10 199 yX2_readyAt := Or.inl (gw3 39 rfl rfl)
theorem lkX10_206 : Lk RX10 206 yX10_sumBits := Or.inl (gw3 46 rfl rfl)
theorem lkX10_341 : Lk RX10 341 yX10_plainSum := Or.inl (gw3 49 rfl rfl)
theorem lkX10_338 : Lk RX10 338 yX10_bitsBelow := Or.inl (gw3 52 rfl rfl)
theorem lkX10_210 : Lk RX10 210 yX10_carryBits := Or.inl (gw3 55 rfl rfl)
theorem lkX10_213 : Lk RX10 213 yX10_bestIsTold := Or.inl (gw3 62 rfl rfl)
theorem lkX10_217 : Lk RX10 217 yX0_search := Or.inl (gw3 65 rfl rfl)
theorem lkX0_32 : Lk RX0 32 yX0_startState := Or.inl (gw3 69 rfl rfl)
theorem lkX0_36 : Lk RX0 36 yX0_waysOn := Or.inl (gw3 73 rfl rfl)
theorem lkX0_55 : Lk RX0 55 yX0_found := Or.inl (gw3 77 rfl rfl)
theorem lkX0_88 : Lk RX0 88 yX10_at := Or.inr ⟨"CarryNets", nw (ts3 81 rfl) rfl⟩
theorem lkX0_80 : Lk RX0 80 yX10_put := Or.inr ⟨"CarryNets", nw (ts3 82 rfl) rfl⟩
theorem lkX0_59 : Lk RX0 59 yX0_longestChain := Or.inl (gw3 83 rfl rfl)
theorem lkX0_92 : Lk RX0 92 yX0_part := Or.inl (gw3 87 rfl rfl)
theorem lkX0_95 : Cond.methodLink RX0 95 Lib.Math.max.name ∈ GW := gw3 90 rfl rfl
theorem lkX0_62 : Lk RX0 62 yX0_waysByRows := Or.inl (gw3 91 rfl rfl)
theorem lkX0_65 : Lk RX0 65 yX0_openPlaces := Or.inl (gw3 95 rfl rfl)
theorem lkX0_68 : Lk RX0 68 yX0_unreadyPlaces := Or.inl (gw3 99 rfl rfl)
theorem lkX0_71 : Lk RX0 71 yJ6_bitCount_0f7a4 := Or.inl (gw3 103 rfl rfl)
theorem lkX0_76 : Lk RX0 76 yX0_loadsFit := Or.inl (gw3 104 rfl rfl)
theorem lkX0_84 : Lk RX0 84 yX0_joined := Or.inl (gw3 108 rfl rfl)
theorem lkX10_226 : Lk RX10 226 yX0_fillLeast := Or.inl (gw3 116 rfl rfl)
theorem lkX0_46 : Lk RX0 46 yX6_begin := Or.inl (gw3 120 rfl rfl)
theorem lkX0_52 : Lk RX0 52 yX6_addRow := Or.inl (gw3 121 rfl rfl)
theorem lkX10_229 : Lk RX10 229 yX10_kindIsTold := Or.inl (gw3 126 rfl rfl)
theorem lkX10_233 : Lk RX10 233 yX1_areTold := Or.inl (gw3 129 rfl rfl)
theorem lkX1_15 : Lk RX1 15 yX1_size := Or.inl (gw3 132 rfl rfl)
theorem lkX10_236 : Lk RX10 236 yX1_worst := Or.inl (gw3 135 rfl rfl)
theorem lkX1_19 : Lk RX1 19 yX1_skipWorst := Or.inl (gw3 138 rfl rfl)
theorem lkX1_26 : Cond.methodLink RX1 26 Lib.Math.max.name ∈ GW := gw3 141 rfl rfl
theorem lkX1_22 : Lk RX1 22 yX1_choiceWorst := Or.inl (gw3 142 rfl rfl)
theorem lkX10_240 : Lk RX10 240 yX1_skipFigures := Or.inl (gw3 149 rfl rfl)
theorem lkX1_36 : Lk RX1 36 yX1_fewestSkipBlocks := Or.inl (gw3 153 rfl rfl)
theorem lkX1_46 : Lk RX1 46 yX1_allowNoBlocks := Or.inl (gw3 157 rfl rfl)
theorem lkX1_57 : Lk RX1 57 yX10_put := Or.inr ⟨"CarryNets", nw (ts3 161 rfl) rfl⟩
theorem lkX1_50 : Lk RX1 50 yX1_allowBlocks := Or.inl (gw3 162 rfl rfl)
theorem lkX1_61 : Lk RX1 61 yX1_greatestSize := Or.inl (gw3 166 rfl rfl)
theorem lkX1_65 : Cond.methodLink RX1 65 Lib.Math.min.name ∈ GW := gw3 170 rfl rfl
theorem lkX1_54 : Lk RX1 54 yX1_wayAllowed := Or.inl (gw3 171 rfl rfl)
theorem lkX1_72 : Lk RX1 72 yX10_at := Or.inr ⟨"CarryNets", nw (ts3 175 rfl) rfl⟩
theorem lkX1_39 : Lk RX1 39 yX1_leastSkipFigures := Or.inl (gw3 176 rfl rfl)
theorem lkX1_68 : Lk RX1 68 yX1_leastSkipSize := Or.inl (gw3 180 rfl rfl)
theorem lkX10_244 : Lk RX10 244 yX1_choiceFigures := Or.inl (gw3 184 rfl rfl)
theorem lkX1_76 : Lk RX1 76 yX1_choicePlaces := Or.inl (gw3 187 rfl rfl)
theorem lkX1_79 : Lk RX1 79 yX1_leastChoiceFigures := Or.inl (gw3 190 rfl rfl)
theorem lkX10_248 : Lk RX10 248 yX10_hasBits := Or.inl (gw3 198 rfl rfl)
theorem lkX10_251 : Cond.methodLink RX10 251 Lib.Math.max.name ∈ GW := gw3 201 rfl rfl
theorem lkX10_257 : Lk RX10 257 yX10_pairsRunningAtMost := Or.inl (gw3 206 rfl rfl)
theorem lkX10_344 : Cond.methodLink RX10 344 Lib.Math.min.name ∈ GW := gw3 210 rfl rfl
theorem lkX10_347 : Lk RX10 347 yX10_pairsInAll := Or.inl (gw3 211 rfl rfl)
theorem lkX10_260 : Lk RX10 260 yX3_heightOf := Or.inl (gw3 224 rfl rfl)
theorem lkX3_15 : Lk RX3 15 yX10_at := Or.inr ⟨"CarryNets", nw (ts3 228 rfl) rfl⟩
theorem lkX10_263 : Lk RX10 263 yX3_setHeight := Or.inl (gw3 229 rfl rfl)
theorem lkX3_19 : Lk RX3 19 yX10_put := Or.inr ⟨"CarryNets", nw (ts3 233 rfl) rfl⟩
theorem lkX10_267 : Lk RX10 267 yX3_clear := Or.inl (gw3 238 rfl rfl)
theorem lkX10_270 : Lk RX10 270 yX3_greatest := Or.inl (gw4 2 rfl rfl)
theorem lkX3_37 : Cond.methodLink RX3 37 Lib.Math.max.name ∈ GW := gw4 6 rfl rfl
theorem lkX10_273 : Lk RX10 273 yX3_done := Or.inl (gw4 11 rfl rfl)
theorem lkX3_43 : Lk RX3 43 yX3_greatest := Or.inl (gw4 15 rfl rfl)
theorem lkX10_276 : Lk RX10 276 yX3_clearTallies := Or.inl (gw4 16 rfl rfl)
theorem lkX10_279 : Lk RX10 279 yX3_bringDown := Or.inl (gw4 20 rfl rfl)
theorem lkX3_47 : Lk RX3 47 yX3_bringDownAtOnce := Or.inl (gw4 24 rfl rfl)
theorem lkX3_50 : Lk RX3 50 yX3_bringDownLate := Or.inl (gw4 28 rfl rfl)
theorem lkX3_53 : Lk RX3 53 yX3_goal := Or.inl (gw4 32 rfl rfl)
theorem lkX10_285 : Lk RX10 285 yX3_copy := Or.inl (gw4 40 rfl rfl)
theorem lkX3_23 : Lk RX3 23 yX3_heightOf := Or.inl (gw4 44 rfl rfl)
theorem lkX10_295 : Lk RX10 295 yX3_allBits := Or.inl (gw4 49 rfl rfl)
theorem lkX10_298 : Lk RX10 298 yX3_filled := Or.inl (gw4 53 rfl rfl)
theorem lkX10_302 : Lk RX10 302 yX10_digitByFours := Or.inl (gw4 62 rfl rfl)
theorem lkX10_305 : Lk RX10 305 yX10_digitsNotZero := Or.inl (gw4 69 rfl rfl)
theorem lkX10_308 : Lk RX10 308 yX10_productByDigits := Or.inl (gw4 72 rfl rfl)
theorem lkX10_311 : Lk RX10 311 yX10_sheetNumbered := Or.inl (gw4 79 rfl rfl)
theorem lkX10_315 : Lk RX10 315 yX7_renew := Or.inl (gw4 83 rfl rfl)
theorem lkX10_318 : Lk RX10 318 yX7_isNothing := Or.inl (gw4 91 rfl rfl)
theorem lkX10_321 : Lk RX10 321 yX7_hasCell := Or.inl (gw4 95 rfl rfl)
theorem lkX10_325 : Lk RX10 325 yX7_write := Or.inl (gw4 99 rfl rfl)
theorem lkX7_26 : Lk RX7 26 yX10_put := Or.inr ⟨"CarryNets", nw (ts4 103 rfl) rfl⟩
theorem lkX10_328 : Lk RX10 328 yX7_refusal := Or.inl (gw4 108 rfl rfl)
theorem lkX7_30 : Lk RX7 30 yX7_isNothing := Or.inl (gw4 112 rfl rfl)
theorem lkX7_34 : Lk RX7 34 yX7_hasCell := Or.inl (gw4 113 rfl rfl)
theorem lkX7_38 : Lk RX7 38 yX7_read := Or.inl (gw4 114 rfl rfl)
theorem lkX7_22 : Lk RX7 22 yX10_at := Or.inr ⟨"CarryNets", nw (ts4 118 rfl) rfl⟩
theorem lkX10_332 : Lk RX10 332 yX7_read := Or.inl (gw4 119 rfl rfl)
theorem lkX10_335 : Lk RX10 335 yX10_cellsOfFirstSheet := Or.inl (gw4 124 rfl rfl)
theorem lkX11_109 : Lk RX11 109 yX11_in := Or.inl (gw5 19 rfl rfl)
theorem lkX11_91 : Lk RX11 91 yX11_begins := Or.inl (gw5 26 rfl rfl)
theorem lkX11_148 : Lk RX11 148 yX11_next := Or.inl (gw5 30 rfl rfl)
theorem lkX11_130 : Lk RX11 130 yX11_look := Or.inl (gw5 34 rfl rfl)
theorem lkX11_144 : Lk RX11 144 yX11_wants := Or.inl (gw5 40 rfl rfl)
theorem lkX11_151 : Lk RX11 151 yX11_isSign := Or.inl (gw5 46 rfl rfl)
theorem lkX11_159 : Lk RX11 159 yX11_readRow := Or.inl (gw5 50 rfl rfl)
theorem lkX11_98 : Lk RX11 98 yX11_joins := Or.inl (gw5 54 rfl rfl)
theorem lkX11_162 : Lk RX11 162 yX11_comes := Or.inl (gw5 67 rfl rfl)
theorem lkX11_167 : Lk RX11 167 yX11_upAndDown := Or.inl (gw5 71 rfl rfl)
theorem lkX11_171 : Lk RX11 171 yX11_placesFrom := Or.inl (gw5 75 rfl rfl)
theorem lkX11_175 : Lk RX11 175 yX11_isNet := Or.inl (gw5 87 rfl rfl)
theorem lkX11_94 : Lk RX11 94 yX11_cellsOf := Or.inl (gw5 92 rfl rfl)
theorem lkX11_180 : Lk RX11 180 yX11_bits := Or.inl (gw5 96 rfl rfl)
theorem lkX11_102 : Lk RX11 102 yX11_goesTo := Or.inl (gw5 100 rfl rfl)
theorem lkX11_186 : Lk RX11 186 yX11_findTakes := Or.inl (gw5 104 rfl rfl)
theorem lkX11_189 : Lk RX11 189 yX11_loadOf := Or.inl (gw5 108 rfl rfl)
theorem lkX11_192 : Lk RX11 192 yX11_tracks := Or.inl (gw5 112 rfl rfl)
theorem lkX11_196 : Lk RX11 196 yX11_isWhole := Or.inl (gw5 116 rfl rfl)
theorem lkX11_230 : Lk RX11 230 yX11_isBest := Or.inl (gw5 149 rfl rfl)
theorem lkX11_234 : Lk RX11 234 yX11_fills := Or.inl (gw5 154 rfl rfl)
theorem lkX11_222 : Lk RX11 222 yX11_fillsRow := Or.inl (gw5 158 rfl rfl)
theorem lkX11_212 : Lk RX11 212 yX11_spansOf := Or.inl (gw5 162 rfl rfl)
theorem lkX11_215 : Lk RX11 215 yX11_behind := Or.inl (gw5 166 rfl rfl)
theorem lkX11_219 : Lk RX11 219 yX11_few := Or.inl (gw5 170 rfl rfl)
theorem lkX11_237 : Lk RX11 237 yX11_firstState := Or.inl (gw5 173 rfl rfl)
theorem lkX11_244 : Lk RX11 244 yX11_least := Or.inl (gw5 191 rfl rfl)
theorem lkX11_256 : Lk RX11 256 yX11_fillsBelow := Or.inl (gw5 194 rfl rfl)
theorem lkX11_248 : Lk RX11 248 yX11_roomOf := Or.inl (gw5 198 rfl rfl)
theorem lkX11_252 : Lk RX11 252 yX11_aboveThen := Or.inl (gw5 201 rfl rfl)
theorem lkX11_260 : Lk RX11 260 yX11_runsOf := Or.inl (gw5 212 rfl rfl)
theorem lkX11_267 : Lk RX11 267 yX11_greatest := Or.inl (gw5 234 rfl rfl)
theorem lkX11_280 : Lk RX11 280 yX11_copies := Or.inl (gw5 237 rfl rfl)
theorem lkX11_283 : Lk RX11 283 yX11_rowDown := Or.inl (gw6 1 rfl rfl)
theorem lkX11_288 : Lk RX11 288 yX11_allBits := Or.inl (gw6 14 rfl rfl)
theorem lkX11_295 : Lk RX11 295 yX11_digitOf := Or.inl (gw6 24 rfl rfl)
theorem lkX11_302 : Lk RX11 302 yX11_isSheet := Or.inl (gw6 37 rfl rfl)
theorem csJ6_265 : Cond.constant RJ6 265 (1431655765) ∈ GW := gw2 193 rfl rfl
theorem csJ6_266 : Cond.constant RJ6 266 (858993459) ∈ GW := gw2 194 rfl rfl
theorem csJ6_267 : Cond.constant RJ6 267 (252645135) ∈ GW := gw2 195 rfl rfl
theorem csX10_202 : Cond.constantLong RX10 202 (-1) ∈ GW := gw3 44 rfl rfl
theorem csX10_204 : Cond.constantLong RX10 204 (-2) ∈ GW := gw3 45 rfl rfl
theorem csX1_83 : Cond.constantLong RX1 83 (-1) ∈ GW := gw3 193 rfl rfl
theorem csX10_351 : Cond.constantLong RX10 351 (2) ∈ GW := gw3 215 rfl rfl
theorem csX10_301 : Cond.constant RX10 301 (65535) ∈ GW := gw4 61 rfl rfl
theorem csX11_54 : Cond.constant RX11 54 (35280) ∈ GW := gw4 134 rfl rfl
theorem csX11_116 : Cond.constantLong RX11 116 (255) ∈ GW := gw5 14 rfl rfl
theorem csX11_137 : Cond.constantLong RX11 137 (48) ∈ GW := gw5 38 rfl rfl
theorem csX11_139 : Cond.constantLong RX11 139 (57) ∈ GW := gw5 39 rfl rfl
theorem csX11_155 : Cond.constantLong RX11 155 (2) ∈ GW := gw5 44 rfl rfl
theorem csX11_157 : Cond.constantLong RX11 157 (32) ∈ GW := gw5 45 rfl rfl
theorem csX11_165 : Cond.constantLong RX11 165 (4) ∈ GW := gw5 66 rfl rfl
theorem csX11_178 : Cond.constantLong RX11 178 (100) ∈ GW := gw5 91 rfl rfl
theorem csX11_184 : Cond.constantLong RX11 184 (200) ∈ GW := gw5 99 rfl rfl
theorem csX11_199 : Cond.constantLong RX11 199 (9) ∈ GW := gw5 128 rfl rfl
theorem csX11_201 : Cond.constantLong RX11 201 (31) ∈ GW := gw5 133 rfl rfl
theorem csX11_203 : Cond.constantLong RX11 203 (99) ∈ GW := gw5 134 rfl rfl
theorem csX11_205 : Cond.constantLong RX11 205 (-1) ∈ GW := gw5 143 rfl rfl
theorem csX11_207 : Cond.constantLong RX11 207 (-2) ∈ GW := gw5 144 rfl rfl
theorem csX11_226 : Cond.constantLong RX11 226 (7) ∈ GW := gw5 152 rfl rfl
theorem csX11_228 : Cond.constantLong RX11 228 (6) ∈ GW := gw5 153 rfl rfl
theorem csX11_240 : Cond.constantLong RX11 240 (281474976710655) ∈ GW := gw5 185 rfl rfl
theorem csX11_242 : Cond.constantLong RX11 242 (15) ∈ GW := gw5 186 rfl rfl
theorem csX11_263 : Cond.constantLong RX11 263 (11) ∈ GW := gw5 224 rfl rfl
theorem csX11_265 : Cond.constantLong RX11 265 (12) ∈ GW := gw5 225 rfl rfl
theorem csX11_286 : Cond.constantLong RX11 286 (3) ∈ GW := gw6 9 rfl rfl
theorem csX11_291 : Cond.constantLong RX11 291 (65535) ∈ GW := gw6 22 rfl rfl
theorem csX11_293 : Cond.constantLong RX11 293 (8) ∈ GW := gw6 23 rfl rfl
theorem csX11_298 : Cond.constantLong RX11 298 (32767) ∈ GW := gw6 31 rfl rfl
theorem csX11_300 : Cond.constantLong RX11 300 (4294967295) ∈ GW := gw6 32 rfl rfl
theorem mm_ok : MMok := ⟨(gw2 216 rfl rfl), (gw1 12 rfl rfl), (gw2 217 rfl rfl), (gw2 95 rfl rfl), (gw2 96 rfl rfl)⟩
theorem kd_0 : kd 0 = 9 := rfl
theorem gr_0_0 : gr 0 0 = 1 := rfl
theorem gr_0_2 : gr 0 2 = 2 := rfl
theorem gr_0_3 : gr 0 3 = 4 := rfl
theorem gr_0_4 : gr 0 4 = 8 := rfl
theorem gr_0_5 : gr 0 5 = 14 := rfl
theorem gr_0_6 : gr 0 6 = 21 := rfl
theorem gr_0_7 : gr 0 7 = 24 := rfl
theorem gr_0_8 : gr 0 8 = 26 := rfl
theorem gr_0_9 : gr 0 9 = 27 := rfl
theorem gr_0_10 : gr 0 10 = 29 := rfl
theorem gr_0_11 : gr 0 11 = 31 := rfl
theorem kd_1 : kd 1 = 103 := rfl
theorem ln_1 : ln 1 = 8 := rfl
theorem gr_1_0 : gr 1 0 = 32 := rfl
theorem gr_1_1 : gr 1 1 = 38 := rfl
theorem gr_1_2 : gr 1 2 = 44 := rfl
theorem gr_1_3 : gr 1 3 = 50 := rfl
theorem gr_1_4 : gr 1 4 = 56 := rfl
theorem gr_1_5 : gr 1 5 = 62 := rfl
theorem gr_1_6 : gr 1 6 = 68 := rfl
theorem gr_1_7 : gr 1 7 = 74 := rfl
theorem kd_2 : kd 2 = 8 := rfl
theorem gr_2_2 : gr 2 2 = 3 := rfl
theorem kd_3 : kd 3 = 102 := rfl
theorem ln_3 : ln 3 = 240 := rfl
theorem kd_4 : kd 4 = 7 := rfl
theorem gr_4_1 : gr 4 1 = 5 := rfl
theorem gr_4_2 : gr 4 2 = 6 := rfl
theorem gr_4_3 : gr 4 3 = 7 := rfl
theorem kd_5 : kd 5 = 100 := rfl
theorem ln_5 : ln 5 = 32 := rfl
theorem kd_6 : kd 6 = 100 := rfl
theorem ln_6 : ln 6 = 32 := rfl
theorem kd_7 : kd 7 = 100 := rfl
theorem ln_7 : ln 7 = 32 := rfl
theorem kd_8 : kd 8 = 4 := rfl
theorem gr_8_5 : gr 8 5 = 9 := rfl
theorem gr_8_6 : gr 8 6 = 13 := rfl
theorem kd_9 : kd 9 = 7 := rfl
theorem gr_9_1 : gr 9 1 = 10 := rfl
theorem gr_9_2 : gr 9 2 = 11 := rfl
theorem gr_9_3 : gr 9 3 = 12 := rfl
theorem kd_10 : kd 10 = 100 := rfl
theorem ln_10 : ln 10 = 32 := rfl
theorem kd_11 : kd 11 = 100 := rfl
theorem ln_11 : ln 11 = 32 := rfl
theorem kd_12 : kd 12 = 100 := rfl
theorem ln_12 : ln 12 = 32 := rfl
theorem kd_13 : kd 13 = 100 := rfl
theorem ln_13 : ln 13 = 32 := rfl
theorem kd_14 : kd 14 = 2 := rfl
theorem gr_14_2 : gr 14 2 = 15 := rfl
theorem gr_14_3 : gr 14 3 = 16 := rfl
theorem gr_14_4 : gr 14 4 = 17 := rfl
theorem kd_15 : kd 15 = 100 := rfl
theorem ln_15 : ln 15 = 32 := rfl
theorem kd_16 : kd 16 = 100 := rfl
theorem ln_16 : ln 16 = 32 := rfl
theorem kd_17 : kd 17 = 7 := rfl
theorem gr_17_1 : gr 17 1 = 18 := rfl
theorem gr_17_2 : gr 17 2 = 19 := rfl
theorem gr_17_3 : gr 17 3 = 20 := rfl
theorem kd_18 : kd 18 = 100 := rfl
theorem ln_18 : ln 18 = 32 := rfl
theorem kd_19 : kd 19 = 100 := rfl
theorem ln_19 : ln 19 = 32 := rfl
theorem kd_20 : kd 20 = 100 := rfl
theorem ln_20 : ln 20 = 32 := rfl
theorem kd_21 : kd 21 = 0 := rfl
theorem gr_21_5 : gr 21 5 = 22 := rfl
theorem gr_21_6 : gr 21 6 = 23 := rfl
theorem kd_22 : kd 22 = 100 := rfl
theorem ln_22 : ln 22 = 6 := rfl
theorem kd_23 : kd 23 = 100 := rfl
theorem ln_23 : ln 23 = 6 := rfl
theorem kd_24 : kd 24 = 1 := rfl
theorem gr_24_0 : gr 24 0 = 25 := rfl
theorem kd_25 : kd 25 = 100 := rfl
theorem ln_25 : ln 25 = 429 := rfl
theorem kd_26 : kd 26 = 101 := rfl
theorem ln_26 : ln 26 = 32 := rfl
theorem kd_27 : kd 27 = 3 := rfl
theorem gr_27_3 : gr 27 3 = 28 := rfl
theorem kd_28 : kd 28 = 100 := rfl
theorem ln_28 : ln 28 = 12 := rfl
theorem kd_29 : kd 29 = 3 := rfl
theorem gr_29_3 : gr 29 3 = 30 := rfl
theorem kd_30 : kd 30 = 100 := rfl
theorem ln_30 : ln 30 = 12 := rfl
theorem kd_31 : kd 31 = 104 := rfl
theorem ln_31 : ln 31 = 4 := rfl
theorem gr_31_0 : gr 31 0 = 80 := rfl
theorem gr_31_1 : gr 31 1 = 82 := rfl
theorem gr_31_2 : gr 31 2 = 84 := rfl
theorem gr_31_3 : gr 31 3 = 86 := rfl
theorem kd_32 : kd 32 = 5 := rfl
theorem gr_32_2 : gr 32 2 = 33 := rfl
theorem gr_32_3 : gr 32 3 = 37 := rfl
theorem kd_33 : kd 33 = 7 := rfl
theorem gr_33_1 : gr 33 1 = 34 := rfl
theorem gr_33_2 : gr 33 2 = 35 := rfl
theorem gr_33_3 : gr 33 3 = 36 := rfl
theorem kd_34 : kd 34 = 100 := rfl
theorem ln_34 : ln 34 = 32 := rfl
theorem kd_35 : kd 35 = 100 := rfl
theorem ln_35 : ln 35 = 32 := rfl
theorem kd_36 : kd 36 = 100 := rfl
theorem ln_36 : ln 36 = 32 := rfl
theorem kd_37 : kd 37 = 100 := rfl
theorem ln_37 : ln 37 = 32 := rfl
theorem kd_38 : kd 38 = 5 := rfl
theorem gr_38_2 : gr 38 2 = 39 := rfl
theorem gr_38_3 : gr 38 3 = 43 := rfl
theorem kd_39 : kd 39 = 7 := rfl
theorem gr_39_1 : gr 39 1 = 40 := rfl
theorem gr_39_2 : gr 39 2 = 41 := rfl
theorem gr_39_3 : gr 39 3 = 42 := rfl
theorem kd_40 : kd 40 = 100 := rfl
theorem ln_40 : ln 40 = 32 := rfl
theorem kd_41 : kd 41 = 100 := rfl
theorem ln_41 : ln 41 = 32 := rfl
theorem kd_42 : kd 42 = 100 := rfl
theorem ln_42 : ln 42 = 32 := rfl
theorem kd_43 : kd 43 = 100 := rfl
theorem ln_43 : ln 43 = 32 := rfl
theorem kd_44 : kd 44 = 5 := rfl
theorem gr_44_2 : gr 44 2 = 45 := rfl
theorem gr_44_3 : gr 44 3 = 49 := rfl
theorem kd_45 : kd 45 = 7 := rfl
theorem gr_45_1 : gr 45 1 = 46 := rfl
theorem gr_45_2 : gr 45 2 = 47 := rfl
theorem gr_45_3 : gr 45 3 = 48 := rfl
theorem kd_46 : kd 46 = 100 := rfl
theorem ln_46 : ln 46 = 32 := rfl
theorem kd_47 : kd 47 = 100 := rfl
theorem ln_47 : ln 47 = 32 := rfl
theorem kd_48 : kd 48 = 100 := rfl
theorem ln_48 : ln 48 = 32 := rfl
theorem kd_49 : kd 49 = 100 := rfl
theorem ln_49 : ln 49 = 32 := rfl
theorem kd_50 : kd 50 = 5 := rfl
theorem gr_50_2 : gr 50 2 = 51 := rfl
theorem gr_50_3 : gr 50 3 = 55 := rfl
theorem kd_51 : kd 51 = 7 := rfl
theorem gr_51_1 : gr 51 1 = 52 := rfl
theorem gr_51_2 : gr 51 2 = 53 := rfl
theorem gr_51_3 : gr 51 3 = 54 := rfl
theorem kd_52 : kd 52 = 100 := rfl
theorem ln_52 : ln 52 = 32 := rfl
theorem kd_53 : kd 53 = 100 := rfl
theorem ln_53 : ln 53 = 32 := rfl
theorem kd_54 : kd 54 = 100 := rfl
theorem ln_54 : ln 54 = 32 := rfl
theorem kd_55 : kd 55 = 100 := rfl
theorem ln_55 : ln 55 = 32 := rfl
theorem kd_56 : kd 56 = 5 := rfl
theorem gr_56_2 : gr 56 2 = 57 := rfl
theorem gr_56_3 : gr 56 3 = 61 := rfl
theorem kd_57 : kd 57 = 7 := rfl
theorem gr_57_1 : gr 57 1 = 58 := rfl
theorem gr_57_2 : gr 57 2 = 59 := rfl
theorem gr_57_3 : gr 57 3 = 60 := rfl
theorem kd_58 : kd 58 = 100 := rfl
theorem ln_58 : ln 58 = 32 := rfl
theorem kd_59 : kd 59 = 100 := rfl
theorem ln_59 : ln 59 = 32 := rfl
theorem kd_60 : kd 60 = 100 := rfl
theorem ln_60 : ln 60 = 32 := rfl
theorem kd_61 : kd 61 = 100 := rfl
theorem ln_61 : ln 61 = 32 := rfl
theorem kd_62 : kd 62 = 5 := rfl
theorem gr_62_2 : gr 62 2 = 63 := rfl
theorem gr_62_3 : gr 62 3 = 67 := rfl
theorem kd_63 : kd 63 = 7 := rfl
theorem gr_63_1 : gr 63 1 = 64 := rfl
theorem gr_63_2 : gr 63 2 = 65 := rfl
theorem gr_63_3 : gr 63 3 = 66 := rfl
theorem kd_64 : kd 64 = 100 := rfl
theorem ln_64 : ln 64 = 32 := rfl
theorem kd_65 : kd 65 = 100 := rfl
theorem ln_65 : ln 65 = 32 := rfl
theorem kd_66 : kd 66 = 100 := rfl
theorem ln_66 : ln 66 = 32 := rfl
theorem kd_67 : kd 67 = 100 := rfl
theorem ln_67 : ln 67 = 32 := rfl
theorem kd_68 : kd 68 = 5 := rfl
theorem gr_68_2 : gr 68 2 = 69 := rfl
theorem gr_68_3 : gr 68 3 = 73 := rfl
theorem kd_69 : kd 69 = 7 := rfl
theorem gr_69_1 : gr 69 1 = 70 := rfl
theorem gr_69_2 : gr 69 2 = 71 := rfl
theorem gr_69_3 : gr 69 3 = 72 := rfl
theorem kd_70 : kd 70 = 100 := rfl
theorem ln_70 : ln 70 = 32 := rfl
theorem kd_71 : kd 71 = 100 := rfl
theorem ln_71 : ln 71 = 32 := rfl
theorem kd_72 : kd 72 = 100 := rfl
theorem ln_72 : ln 72 = 32 := rfl
theorem kd_73 : kd 73 = 100 := rfl
theorem ln_73 : ln 73 = 32 := rfl
theorem kd_74 : kd 74 = 5 := rfl
theorem gr_74_2 : gr 74 2 = 75 := rfl
theorem gr_74_3 : gr 74 3 = 79 := rfl
theorem kd_75 : kd 75 = 7 := rfl
theorem gr_75_1 : gr 75 1 = 76 := rfl
theorem gr_75_2 : gr 75 2 = 77 := rfl
theorem gr_75_3 : gr 75 3 = 78 := rfl
theorem kd_76 : kd 76 = 100 := rfl
theorem ln_76 : ln 76 = 32 := rfl
theorem kd_77 : kd 77 = 100 := rfl
theorem ln_77 : ln 77 = 32 := rfl
theorem kd_78 : kd 78 = 100 := rfl
theorem ln_78 : ln 78 = 32 := rfl
theorem kd_79 : kd 79 = 100 := rfl
theorem ln_79 : ln 79 = 32 := rfl
theorem kd_80 : kd 80 = 6 := rfl
theorem gr_80_2 : gr 80 2 = 81 := rfl
theorem kd_81 : kd 81 = 100 := rfl
theorem ln_81 : ln 81 = 60 := rfl
theorem kd_82 : kd 82 = 6 := rfl
theorem gr_82_2 : gr 82 2 = 83 := rfl
theorem kd_83 : kd 83 = 100 := rfl
theorem ln_83 : ln 83 = 60 := rfl
theorem kd_84 : kd 84 = 6 := rfl
theorem gr_84_2 : gr 84 2 = 85 := rfl
theorem kd_85 : kd 85 = 100 := rfl
theorem ln_85 : ln 85 = 60 := rfl
theorem kd_86 : kd 86 = 6 := rfl
theorem gr_86_2 : gr 86 2 = 87 := rfl
theorem kd_87 : kd 87 = 100 := rfl
theorem ln_87 : ln 87 = 60 := rfl
theorem kd_88 : kd 88 = 10 := rfl
theorem gr_88_1 : gr 88 1 = 89 := rfl
theorem gr_88_2 : gr 88 2 = 90 := rfl
theorem gr_88_3 : gr 88 3 = 91 := rfl
theorem gr_88_6 : gr 88 6 = 92 := rfl
theorem gr_88_7 : gr 88 7 = 93 := rfl
theorem gr_88_8 : gr 88 8 = 94 := rfl
theorem gr_88_9 : gr 88 9 = 95 := rfl
theorem gr_88_17 : gr 88 17 = 96 := rfl
theorem gr_88_18 : gr 88 18 = 97 := rfl
theorem gr_88_19 : gr 88 19 = 98 := rfl
theorem gr_88_22 : gr 88 22 = 99 := rfl
theorem gr_88_23 : gr 88 23 = 100 := rfl
theorem gr_88_25 : gr 88 25 = 101 := rfl
theorem gr_88_26 : gr 88 26 = 102 := rfl
theorem gr_88_27 : gr 88 27 = 103 := rfl
theorem gr_88_28 : gr 88 28 = 104 := rfl
theorem gr_88_29 : gr 88 29 = 105 := rfl
theorem gr_88_30 : gr 88 30 = 106 := rfl
theorem gr_88_31 : gr 88 31 = 107 := rfl
theorem gr_88_35 : gr 88 35 = 108 := rfl
theorem gr_88_36 : gr 88 36 = 109 := rfl
theorem gr_88_37 : gr 88 37 = 110 := rfl
theorem kd_89 : kd 89 = 100 := rfl
theorem ln_89 : ln 89 = 8 := rfl
theorem kd_90 : kd 90 = 100 := rfl
theorem ln_90 : ln 90 = 8 := rfl
theorem kd_91 : kd 91 = 101 := rfl
theorem ln_91 : ln 91 = 256 := rfl
theorem kd_92 : kd 92 = 100 := rfl
theorem ln_92 : ln 92 = 32 := rfl
theorem kd_93 : kd 93 = 100 := rfl
theorem ln_93 : ln 93 = 32 := rfl
theorem kd_94 : kd 94 = 100 := rfl
theorem ln_94 : ln 94 = 32 := rfl
theorem kd_95 : kd 95 = 100 := rfl
theorem ln_95 : ln 95 = 240 := rfl
theorem kd_96 : kd 96 = 100 := rfl
theorem ln_96 : ln 96 = 32 := rfl
theorem kd_97 : kd 97 = 100 := rfl
theorem ln_97 : ln 97 = 32 := rfl
theorem kd_98 : kd 98 = 100 := rfl
theorem ln_98 : ln 98 = 32 := rfl
theorem kd_99 : kd 99 = 100 := rfl
theorem ln_99 : ln 99 = 35280 := rfl
theorem kd_100 : kd 100 = 100 := rfl
theorem ln_100 : ln 100 = 35280 := rfl
theorem kd_101 : kd 101 = 100 := rfl
theorem ln_101 : ln 101 = 7 := rfl
theorem kd_102 : kd 102 = 100 := rfl
theorem ln_102 : ln 102 = 12 := rfl
theorem kd_103 : kd 103 = 100 := rfl
theorem ln_103 : ln 103 = 1690 := rfl
theorem kd_104 : kd 104 = 101 := rfl
theorem ln_104 : ln 104 = 33 := rfl
theorem kd_105 : kd 105 = 101 := rfl
theorem ln_105 : ln 105 = 33 := rfl
theorem kd_106 : kd 106 = 100 := rfl
theorem ln_106 : ln 106 = 12 := rfl
theorem kd_107 : kd 107 = 100 := rfl
theorem ln_107 : ln 107 = 12 := rfl
theorem kd_108 : kd 108 = 100 := rfl
theorem ln_108 : ln 108 = 4 := rfl
theorem kd_109 : kd 109 = 100 := rfl
theorem ln_109 : ln 109 = 4 := rfl
theorem kd_110 : kd 110 = 100 := rfl
theorem ln_110 : ln 110 = 240 := rfl
theorem kf_3_3 {o : Nat} (h : kd o = 3) : kd (gr o 3) = 100 ∧ ln (gr o 3) = 12 := by
  have q : ∀ o, o < NC → kd o = 3 → kd (gr o 3) = 100 ∧ ln (gr o 3) = 12 := by decide +kernel
  exact q o (kd_lt h (by decide)) h
theorem kf_5_2 {o : Nat} (h : kd o = 5) : kd (gr o 2) = 7 ∧ ln (gr o 2) = 0 := by
  have q : ∀ o, o < NC → kd o = 5 → kd (gr o 2) = 7 ∧ ln (gr o 2) = 0 := by decide +kernel
  exact q o (kd_lt h (by decide)) h
theorem kf_5_3 {o : Nat} (h : kd o = 5) : kd (gr o 3) = 100 ∧ ln (gr o 3) = 32 := by
  have q : ∀ o, o < NC → kd o = 5 → kd (gr o 3) = 100 ∧ ln (gr o 3) = 32 := by decide +kernel
  exact q o (kd_lt h (by decide)) h
theorem kf_6_2 {o : Nat} (h : kd o = 6) : kd (gr o 2) = 100 ∧ ln (gr o 2) = 60 := by
  have q : ∀ o, o < NC → kd o = 6 → kd (gr o 2) = 100 ∧ ln (gr o 2) = 60 := by decide +kernel
  exact q o (kd_lt h (by decide)) h
theorem kf_7_1 {o : Nat} (h : kd o = 7) : kd (gr o 1) = 100 ∧ ln (gr o 1) = 32 := by
  have q : ∀ o, o < NC → kd o = 7 → kd (gr o 1) = 100 ∧ ln (gr o 1) = 32 := by decide +kernel
  exact q o (kd_lt h (by decide)) h
theorem kf_7_2 {o : Nat} (h : kd o = 7) : kd (gr o 2) = 100 ∧ ln (gr o 2) = 32 := by
  have q : ∀ o, o < NC → kd o = 7 → kd (gr o 2) = 100 ∧ ln (gr o 2) = 32 := by decide +kernel
  exact q o (kd_lt h (by decide)) h
theorem kf_7_3 {o : Nat} (h : kd o = 7) : kd (gr o 3) = 100 ∧ ln (gr o 3) = 32 := by
  have q : ∀ o, o < NC → kd o = 7 → kd (gr o 3) = 100 ∧ ln (gr o 3) = 32 := by decide +kernel
  exact q o (kd_lt h (by decide)) h
/-! derived rules -/
def bI (c : Prop) [Decidable c] : Int32 := if c then 1 else 0
theorem bI_pos {c : Prop} [Decidable c] (h : c) : bI c = 1 := if_pos h
theorem bI_neg {c : Prop} [Decidable c] (h : ¬ c) : bI c = 0 := if_neg h
theorem bI_01 {c : Prop} [Decidable c] : bI c = 0 ∨ bI c = 1 := by by_cases h : c <;> simp [bI, h]
section BASEV
variable {M : Mt} {d pc pc' : Nat} {L L' : List (Option Value)} {st st' : List Value} {σ σ' : St} {Q : Option Value → St → Prop}
theorem br_ifeq_b {c : Prop} [Decidable c] {off : Int} (tgt : Nat) (hd : decode M.2.1 pc = .ok (.ifCond .eq off, 3)) (ht : (pc : Int) + off = (tgt : Int)) : Br M d pc L (.int (bI c) :: st) σ (¬ c) c tgt (pc + 3) st := by
  intro X p l e R s m args below meth c0 A0 H0 cells slots Q F kt kf
  exact br_if_eq tgt hd ht X p l e R s m args below meth c0 A0 H0 cells slots Q F (fun h => kt (fun h2 => by rw [bI_pos h2] at h; exact absurd h (by decide))) (fun h => kf (Decidable.byContradiction fun h2 => h (bI_neg h2)))
theorem br_ifne_b {c : Prop} [Decidable c] {off : Int} (tgt : Nat) (hd : decode M.2.1 pc = .ok (.ifCond .ne off, 3)) (ht : (pc : Int) + off = (tgt : Int)) : Br M d pc L (.int (bI c) :: st) σ c (¬ c) tgt (pc + 3) st := by
  intro X p l e R s m args below meth c0 A0 H0 cells slots Q F kt kf
  exact br_if_ne tgt hd ht X p l e R s m args below meth c0 A0 H0 cells slots Q F (fun h => kt (Decidable.byContradiction fun h2 => h (bI_neg h2))) (fun h => kf (fun h2 => by rw [bI_pos h2] at h; exact absurd h (by decide)))
theorem lc_lt {x y : Int64} : lg_cmp x y < 0 ↔ x < y := by
  unfold lg_cmp
  by_cases h1 : x > y
  · rw [if_pos h1]; exact ⟨fun h => absurd h (by decide), fun h => absurd h1 (lg_lt_not h)⟩
  · rw [if_neg h1]
    by_cases h2 : x = y
    · rw [if_pos h2]; subst h2; exact ⟨fun h => absurd h (by decide), fun h => absurd h (by simp [Int64.lt_iff_toInt_lt])⟩
    · rw [if_neg h2]; refine ⟨fun _ => ?_, fun _ => by decide⟩
      simp only [Int64.lt_iff_toInt_lt, ← Int64.toInt_inj] at *; omega
theorem lc_eq {x y : Int64} : lg_cmp x y = 0 ↔ x = y := by
  unfold lg_cmp
  by_cases h1 : x > y
  · rw [if_pos h1]; refine ⟨fun h => absurd h (by decide), fun h => ?_⟩
    subst h; exact absurd h1 (by simp [Int64.lt_iff_toInt_lt])
  · rw [if_neg h1]
    by_cases h2 : x = y
    · rw [if_pos h2]; exact ⟨fun _ => h2, fun _ => rfl⟩
    · rw [if_neg h2]; exact ⟨fun h => absurd h (by decide), fun h => absurd h h2⟩
theorem lc_gt {x y : Int64} : 0 < lg_cmp x y ↔ y < x := by
  unfold lg_cmp
  by_cases h1 : x > y
  · rw [if_pos h1]; exact ⟨fun _ => h1, fun _ => by decide⟩
  · rw [if_neg h1]
    by_cases h2 : x = y
    · rw [if_pos h2]; subst h2; exact ⟨fun h => absurd h (by decide), fun h => absurd h (by simp [Int64.lt_iff_toInt_lt])⟩
    · rw [if_neg h2]; exact ⟨fun h => absurd h (by decide), fun h => absurd h h1⟩
theorem i32_nlt {x y : Int32} : ¬ x < y ↔ y ≤ x := by simp only [Int32.lt_iff_toInt_lt, Int32.le_iff_toInt_le]; omega
theorem i32_nle {x y : Int32} : ¬ x ≤ y ↔ y < x := by simp only [Int32.lt_iff_toInt_lt, Int32.le_iff_toInt_le]; omega
theorem i64_nlt {x y : Int64} : ¬ x < y ↔ y ≤ x := by simp only [Int64.lt_iff_toInt_lt, Int64.le_iff_toInt_le]; omega
theorem i64_nle {x y : Int64} : ¬ x ≤ y ↔ y < x := by simp only [Int64.lt_iff_toInt_lt, Int64.le_iff_toInt_le]; omega
theorem Br.imp {q q2 r r2 : Prop} {pc1 pc2 : Nat} (h : Br M d pc L st σ q q2 pc1 pc2 st') (h1 : q → r) (h2 : q2 → r2) : Br M d pc L st σ r r2 pc1 pc2 st' :=
  fun X p l e R s m args below meth c0 A0 H0 cells slots Q F kt kf => h X p l e R s m args below meth c0 A0 H0 cells slots Q F (fun a => kt (h1 a)) (fun a => kf (h2 a))
theorem Go.br {q q2 : Prop} {pc1 pc2 : Nat} {st1 : List Value} (h : Go M d pc L st σ pc' L' st' σ') (h2 : Br M d pc' L' st' σ' q q2 pc1 pc2 st1) (k1 : q → Run M d pc1 L' st1 σ' Q) (k2 : q2 → Run M d pc2 L' st1 σ' Q) : Run M d pc L st σ Q := h.run (h2.run k1 k2)
theorem brl_lt {x y : Int64} {off : Int} (tgt : Nat) (hd : decode M.2.1 pc = .ok (.ifCond .lt off, 3)) (ht : (pc : Int) + off = (tgt : Int)) : Br M d pc L (.int (lg_cmp x y) :: st) σ (x < y) (y ≤ x) tgt (pc + 3) st := (br_if_lt tgt hd ht).imp (fun h => lc_lt.mp h) (fun h => i64_nlt.mp fun h2 => h (lc_lt.mpr h2))
theorem brl_ge {x y : Int64} {off : Int} (tgt : Nat) (hd : decode M.2.1 pc = .ok (.ifCond .ge off, 3)) (ht : (pc : Int) + off = (tgt : Int)) : Br M d pc L (.int (lg_cmp x y) :: st) σ (y ≤ x) (x < y) tgt (pc + 3) st := (br_if_ge tgt hd ht).imp (fun h => i64_nlt.mp fun h2 => absurd h (i32_nle.mpr (lc_lt.mpr h2))) (fun h => lc_lt.mp (i32_nle.mp h))
theorem brl_gt {x y : Int64} {off : Int} (tgt : Nat) (hd : decode M.2.1 pc = .ok (.ifCond .gt off, 3)) (ht : (pc : Int) + off = (tgt : Int)) : Br M d pc L (.int (lg_cmp x y) :: st) σ (y < x) (x ≤ y) tgt (pc + 3) st := (br_if_gt tgt hd ht).imp (fun h => lc_gt.mp h) (fun h => i64_nlt.mp fun h2 => h (lc_gt.mpr h2))
theorem brl_le {x y : Int64} {off : Int} (tgt : Nat) (hd : decode M.2.1 pc = .ok (.ifCond .le off, 3)) (ht : (pc : Int) + off = (tgt : Int)) : Br M d pc L (.int (lg_cmp x y) :: st) σ (x ≤ y) (y < x) tgt (pc + 3) st := (br_if_le tgt hd ht).imp (fun h => i64_nlt.mp fun h2 => absurd h (i32_nle.mpr (lc_gt.mpr h2))) (fun h => lc_gt.mp (i32_nle.mp h))
theorem brl_eq {x y : Int64} {off : Int} (tgt : Nat) (hd : decode M.2.1 pc = .ok (.ifCond .eq off, 3)) (ht : (pc : Int) + off = (tgt : Int)) : Br M d pc L (.int (lg_cmp x y) :: st) σ (x = y) (¬ x = y) tgt (pc + 3) st := (br_if_eq tgt hd ht).imp (fun h => lc_eq.mp h) (fun h h2 => h (lc_eq.mpr h2))
theorem brl_ne {x y : Int64} {off : Int} (tgt : Nat) (hd : decode M.2.1 pc = .ok (.ifCond .ne off, 3)) (ht : (pc : Int) + off = (tgt : Int)) : Br M d pc L (.int (lg_cmp x y) :: st) σ (¬ x = y) (x = y) tgt (pc + 3) st := (br_if_ne tgt hd ht).imp (fun h h2 => h (lc_eq.mpr h2)) (fun h => lc_eq.mp h)
/-! the plain branches, with what holds said without a 'not' -/
theorem bi_lt {x y : Int32} {off : Int} (tgt : Nat) (hd : decode M.2.1 pc = .ok (.if_icmp .lt off, 3)) (ht : (pc : Int) + off = (tgt : Int)) : Br M d pc L (.int y :: .int x :: st) σ (x < y) (y ≤ x) tgt (pc + 3) st := (br_icmp_lt tgt hd ht).imp id (fun h => i32_nlt.mp h)
theorem bi_ge {x y : Int32} {off : Int} (tgt : Nat) (hd : decode M.2.1 pc = .ok (.if_icmp .ge off, 3)) (ht : (pc : Int) + off = (tgt : Int)) : Br M d pc L (.int y :: .int x :: st) σ (y ≤ x) (x < y) tgt (pc + 3) st := (br_icmp_ge tgt hd ht).imp id (fun h => i32_nle.mp h)
theorem bi_gt {x y : Int32} {off : Int} (tgt : Nat) (hd : decode M.2.1 pc = .ok (.if_icmp .gt off, 3)) (ht : (pc : Int) + off = (tgt : Int)) : Br M d pc L (.int y :: .int x :: st) σ (y < x) (x ≤ y) tgt (pc + 3) st := (br_icmp_gt tgt hd ht).imp id (fun h => i32_nlt.mp h)
theorem bi_le {x y : Int32} {off : Int} (tgt : Nat) (hd : decode M.2.1 pc = .ok (.if_icmp .le off, 3)) (ht : (pc : Int) + off = (tgt : Int)) : Br M d pc L (.int y :: .int x :: st) σ (x ≤ y) (y < x) tgt (pc + 3) st := (br_icmp_le tgt hd ht).imp id (fun h => i32_nle.mp h)
theorem bi_eq {x y : Int32} {off : Int} (tgt : Nat) (hd : decode M.2.1 pc = .ok (.if_icmp .eq off, 3)) (ht : (pc : Int) + off = (tgt : Int)) : Br M d pc L (.int y :: .int x :: st) σ (x = y) (¬ x = y) tgt (pc + 3) st := br_icmp_eq tgt hd ht
theorem bi_ne {x y : Int32} {off : Int} (tgt : Nat) (hd : decode M.2.1 pc = .ok (.if_icmp .ne off, 3)) (ht : (pc : Int) + off = (tgt : Int)) : Br M d pc L (.int y :: .int x :: st) σ (¬ x = y) (x = y) tgt (pc + 3) st := br_icmp_ne tgt hd ht
theorem bz_lt {x : Int32} {off : Int} (tgt : Nat) (hd : decode M.2.1 pc = .ok (.ifCond .lt off, 3)) (ht : (pc : Int) + off = (tgt : Int)) : Br M d pc L (.int x :: st) σ (x < 0) (0 ≤ x) tgt (pc + 3) st := (br_if_lt tgt hd ht).imp id (fun h => i32_nlt.mp h)
theorem bz_ge {x : Int32} {off : Int} (tgt : Nat) (hd : decode M.2.1 pc = .ok (.ifCond .ge off, 3)) (ht : (pc : Int) + off = (tgt : Int)) : Br M d pc L (.int x :: st) σ (0 ≤ x) (x < 0) tgt (pc + 3) st := (br_if_ge tgt hd ht).imp id (fun h => i32_nle.mp h)
theorem bz_gt {x : Int32} {off : Int} (tgt : Nat) (hd : decode M.2.1 pc = .ok (.ifCond .gt off, 3)) (ht : (pc : Int) + off = (tgt : Int)) : Br M d pc L (.int x :: st) σ (0 < x) (x ≤ 0) tgt (pc + 3) st := (br_if_gt tgt hd ht).imp id (fun h => i32_nlt.mp h)
theorem bz_le {x : Int32} {off : Int} (tgt : Nat) (hd : decode M.2.1 pc = .ok (.ifCond .le off, 3)) (ht : (pc : Int) + off = (tgt : Int)) : Br M d pc L (.int x :: st) σ (x ≤ 0) (0 < x) tgt (pc + 3) st := (br_if_le tgt hd ht).imp id (fun h => i32_nle.mp h)
theorem bz_eq {x : Int32} {off : Int} (tgt : Nat) (hd : decode M.2.1 pc = .ok (.ifCond .eq off, 3)) (ht : (pc : Int) + off = (tgt : Int)) : Br M d pc L (.int x :: st) σ (x = 0) (¬ x = 0) tgt (pc + 3) st := br_if_eq tgt hd ht
theorem bz_ne {x : Int32} {off : Int} (tgt : Nat) (hd : decode M.2.1 pc = .ok (.ifCond .ne off, 3)) (ht : (pc : Int) + off = (tgt : Int)) : Br M d pc L (.int x :: st) σ (¬ x = 0) (x = 0) tgt (pc + 3) st := br_if_ne tgt hd ht
/-! calls whose answer and world are known -/
theorem Run.callS1 {y : MethodName} {Mc : Mt} {n i : Nat} {As : List Value} {r : Value} (hm : MS y Mc n) (hl : Lk M.1 i y) (hn : As.length = n) (hst : As.reverse ++ st = st') (hML : L.length = M.2.2.1) (hs : (st.map fun v => v.category).sum ≤ 8)
    (hd : decode M.2.1 pc = .ok (.invokestatic i, 3)) (hc : Ct y Mc d As σ (fun v σ1 => v = some r ∧ σ1 = σ')) (k : Run M (d + 1) (pc + 3) L (r :: st) σ' Q) : Run M (d + 1) pc L st' σ Q :=
  Run.callS hm hl hn hst hML hs hd (hc.mono (by rintro _ _ ⟨rfl, rfl⟩; exact k))
theorem Run.callS0 {y : MethodName} {Mc : Mt} {n i : Nat} {As : List Value} (hm : MS y Mc n) (hl : Lk M.1 i y) (hn : As.length = n) (hst : As.reverse ++ st = st') (hML : L.length = M.2.2.1) (hs : (st.map fun v => v.category).sum ≤ 8)
    (hd : decode M.2.1 pc = .ok (.invokestatic i, 3)) (hc : Ct y Mc d As σ (fun v σ1 => v = none ∧ σ1 = σ')) (k : Run M (d + 1) (pc + 3) L st σ' Q) : Run M (d + 1) pc L st' σ Q :=
  Run.callS hm hl hn hst hML hs hd (hc.mono (by rintro _ _ ⟨rfl, rfl⟩; exact k))
theorem Run.callV1 {y : MethodName} {Mc : Mt} {n i b ci : Nat} {As : List Value} {q : vw_C} {r : Value} (hm : MV y Mc n) (hl : Lk M.1 i y) (hk : kd b = ci) (hci : ci < 100) (hq : cls[ci]? = some q) (hqn : q.1 = y.cls) (hn : As.length = n) (hst : As.reverse ++ .ref b :: st = st') (hML : L.length = M.2.2.1) (hs : (st.map fun v => v.category).sum ≤ 8)
    (hd : decode M.2.1 pc = .ok (.invokevirtual i, 3)) (hc : Ct y Mc d (.ref b :: As) σ (fun v σ1 => v = some r ∧ σ1 = σ')) (k : Run M (d + 1) (pc + 3) L (r :: st) σ' Q) : Run M (d + 1) pc L st' σ Q :=
  Run.callV hm hl hk hci hq hqn hn hst hML hs hd (hc.mono (by rintro _ _ ⟨rfl, rfl⟩; exact k))
theorem Run.callV0 {y : MethodName} {Mc : Mt} {n i b ci : Nat} {As : List Value} {q : vw_C} (hm : MV y Mc n) (hl : Lk M.1 i y) (hk : kd b = ci) (hci : ci < 100) (hq : cls[ci]? = some q) (hqn : q.1 = y.cls) (hn : As.length = n) (hst : As.reverse ++ .ref b :: st = st') (hML : L.length = M.2.2.1) (hs : (st.map fun v => v.category).sum ≤ 8)
    (hd : decode M.2.1 pc = .ok (.invokevirtual i, 3)) (hc : Ct y Mc d (.ref b :: As) σ (fun v σ1 => v = none ∧ σ1 = σ')) (k : Run M (d + 1) (pc + 3) L st σ' Q) : Run M (d + 1) pc L st' σ Q :=
  Run.callV hm hl hk hci hq hqn hn hst hML hs hd (hc.mono (by rintro _ _ ⟨rfl, rfl⟩; exact k))
theorem vp_lit {i : Int32} {n : Nat} (h : decide (i < 0) = false) (h2 : Nat.ble n i.toNatClampNeg = false) : vp_in i n := by
  rintro (q | q)
  · exact absurd q (of_decide_eq_false h)
  · rw [Nat.ble_eq_true_of_le q] at h2; cases h2
end BASEV

end BASE
end
section
theorem eX11_in_0 : decode MX11_in.2.1 0 = .ok (.lload_n 0, 1) := by decide +kernel
theorem eX11_in_1 : decode MX11_in.2.1 1 = .ok (.lload_n 2, 1) := by decide +kernel
theorem eX11_in_2 : decode MX11_in.2.1 2 = .ok (.lcmp, 1) := by decide +kernel
theorem eX11_in_3 : decode MX11_in.2.1 3 = .ok (.ifCond .lt 14, 3) := by decide +kernel
theorem eX11_in_6 : decode MX11_in.2.1 6 = .ok (.lload_n 0, 1) := by decide +kernel
theorem eX11_in_7 : decode MX11_in.2.1 7 = .ok (.lload 4, 2) := by decide +kernel
theorem eX11_in_9 : decode MX11_in.2.1 9 = .ok (.lcmp, 1) := by decide +kernel
theorem eX11_in_10 : decode MX11_in.2.1 10 = .ok (.ifCond .gt 7, 3) := by decide +kernel
theorem eX11_in_13 : decode MX11_in.2.1 13 = .ok (.iconst 1, 1) := by decide +kernel
theorem eX11_in_14 : decode MX11_in.2.1 14 = .ok (.goto 4, 3) := by decide +kernel
theorem eX11_in_17 : decode MX11_in.2.1 17 = .ok (.iconst 0, 1) := by decide +kernel
theorem eX11_in_18 : decode MX11_in.2.1 18 = .ok (.ireturn, 1) := by decide +kernel
theorem eX11_bits_0 : decode MX11_bits.2.1 0 = .ok (.iconst 0, 1) := by decide +kernel
theorem eX11_bits_1 : decode MX11_bits.2.1 1 = .ok (.istore_n 2, 1) := by decide +kernel
theorem eX11_bits_2 : decode MX11_bits.2.1 2 = .ok (.iconst 0, 1) := by decide +kernel
theorem eX11_bits_3 : decode MX11_bits.2.1 3 = .ok (.istore_n 3, 1) := by decide +kernel
theorem eX11_bits_4 : decode MX11_bits.2.1 4 = .ok (.iload_n 3, 1) := by decide +kernel
theorem eX11_bits_5 : decode MX11_bits.2.1 5 = .ok (.bipush 64, 2) := by decide +kernel
theorem eX11_bits_7 : decode MX11_bits.2.1 7 = .ok (.if_icmp .ge 18, 3) := by decide +kernel
theorem eX11_bits_10 : decode MX11_bits.2.1 10 = .ok (.iload_n 2, 1) := by decide +kernel
theorem eX11_bits_11 : decode MX11_bits.2.1 11 = .ok (.lload_n 0, 1) := by decide +kernel
theorem eX11_bits_12 : decode MX11_bits.2.1 12 = .ok (.iload_n 3, 1) := by decide +kernel
theorem eX11_bits_13 : decode MX11_bits.2.1 13 = .ok (.lshr, 1) := by decide +kernel
theorem eX11_bits_14 : decode MX11_bits.2.1 14 = .ok (.lconst 1, 1) := by decide +kernel
theorem eX11_bits_15 : decode MX11_bits.2.1 15 = .ok (.land, 1) := by decide +kernel
theorem eX11_bits_16 : decode MX11_bits.2.1 16 = .ok (.l2i, 1) := by decide +kernel
theorem eX11_bits_17 : decode MX11_bits.2.1 17 = .ok (.iadd, 1) := by decide +kernel
theorem eX11_bits_18 : decode MX11_bits.2.1 18 = .ok (.istore_n 2, 1) := by decide +kernel
theorem eX11_bits_19 : decode MX11_bits.2.1 19 = .ok (.iinc 3 1, 3) := by decide +kernel
theorem eX11_bits_22 : decode MX11_bits.2.1 22 = .ok (.goto (-18), 3) := by decide +kernel
theorem eX11_bits_25 : decode MX11_bits.2.1 25 = .ok (.iload_n 2, 1) := by decide +kernel
theorem eX11_bits_26 : decode MX11_bits.2.1 26 = .ok (.ireturn, 1) := by decide +kernel
theorem eX11_begins_0 : decode MX11_begins.2.1 0 = .ok (.iconst 0, 1) := by decide +kernel
theorem eX11_begins_1 : decode MX11_begins.2.1 1 = .ok (.istore_n 1, 1) := by decide +kernel
theorem eX11_begins_2 : decode MX11_begins.2.1 2 = .ok (.iload_n 1, 1) := by decide +kernel
theorem eX11_begins_3 : decode MX11_begins.2.1 3 = .ok (.bipush 32, 2) := by decide +kernel
theorem eX11_begins_5 : decode MX11_begins.2.1 5 = .ok (.if_icmp .ge 16, 3) := by decide +kernel
theorem eX11_begins_8 : decode MX11_begins.2.1 8 = .ok (.aload_n 0, 1) := by decide +kernel
theorem eX11_begins_9 : decode MX11_begins.2.1 9 = .ok (.getfield 30, 3) := by decide +kernel
theorem eX11_begins_12 : decode MX11_begins.2.1 12 = .ok (.iload_n 1, 1) := by decide +kernel
theorem eX11_begins_13 : decode MX11_begins.2.1 13 = .ok (.iload_n 1, 1) := by decide +kernel
theorem eX11_begins_14 : decode MX11_begins.2.1 14 = .ok (.iastore, 1) := by decide +kernel
theorem eX11_begins_15 : decode MX11_begins.2.1 15 = .ok (.iinc 1 1, 3) := by decide +kernel
theorem eX11_begins_18 : decode MX11_begins.2.1 18 = .ok (.goto (-16), 3) := by decide +kernel
theorem eX11_begins_21 : decode MX11_begins.2.1 21 = .ok (.return_, 1) := by decide +kernel
theorem eX11_joins_0 : decode MX11_joins.2.1 0 = .ok (.iconst 0, 1) := by decide +kernel
theorem eX11_joins_1 : decode MX11_joins.2.1 1 = .ok (.istore_n 3, 1) := by decide +kernel
theorem eX11_joins_2 : decode MX11_joins.2.1 2 = .ok (.iload_n 3, 1) := by decide +kernel
theorem eX11_joins_3 : decode MX11_joins.2.1 3 = .ok (.bipush 32, 2) := by decide +kernel
theorem eX11_joins_5 : decode MX11_joins.2.1 5 = .ok (.if_icmp .ge 47, 3) := by decide +kernel
theorem eX11_joins_8 : decode MX11_joins.2.1 8 = .ok (.aload_n 0, 1) := by decide +kernel
theorem eX11_joins_9 : decode MX11_joins.2.1 9 = .ok (.getfield 33, 3) := by decide +kernel
theorem eX11_joins_12 : decode MX11_joins.2.1 12 = .ok (.iload_n 3, 1) := by decide +kernel
theorem eX11_joins_13 : decode MX11_joins.2.1 13 = .ok (.lload_n 1, 1) := by decide +kernel
theorem eX11_joins_14 : decode MX11_joins.2.1 14 = .ok (.iload_n 3, 1) := by decide +kernel
theorem eX11_joins_15 : decode MX11_joins.2.1 15 = .ok (.lshr, 1) := by decide +kernel
theorem eX11_joins_16 : decode MX11_joins.2.1 16 = .ok (.lconst 1, 1) := by decide +kernel
theorem eX11_joins_17 : decode MX11_joins.2.1 17 = .ok (.land, 1) := by decide +kernel
theorem eX11_joins_18 : decode MX11_joins.2.1 18 = .ok (.lconst 1, 1) := by decide +kernel
theorem eX11_joins_19 : decode MX11_joins.2.1 19 = .ok (.lcmp, 1) := by decide +kernel
theorem eX11_joins_20 : decode MX11_joins.2.1 20 = .ok (.ifCond .ne 19, 3) := by decide +kernel
theorem eX11_joins_23 : decode MX11_joins.2.1 23 = .ok (.aload_n 0, 1) := by decide +kernel
theorem eX11_joins_24 : decode MX11_joins.2.1 24 = .ok (.getfield 30, 3) := by decide +kernel
theorem eX11_joins_27 : decode MX11_joins.2.1 27 = .ok (.aload_n 0, 1) := by decide +kernel
theorem eX11_joins_28 : decode MX11_joins.2.1 28 = .ok (.getfield 30, 3) := by decide +kernel
theorem eX11_joins_31 : decode MX11_joins.2.1 31 = .ok (.iload_n 3, 1) := by decide +kernel
theorem eX11_joins_32 : decode MX11_joins.2.1 32 = .ok (.iaload, 1) := by decide +kernel
theorem eX11_joins_33 : decode MX11_joins.2.1 33 = .ok (.iconst 1, 1) := by decide +kernel
theorem eX11_joins_34 : decode MX11_joins.2.1 34 = .ok (.isub, 1) := by decide +kernel
theorem eX11_joins_35 : decode MX11_joins.2.1 35 = .ok (.iaload, 1) := by decide +kernel
theorem eX11_joins_36 : decode MX11_joins.2.1 36 = .ok (.goto 9, 3) := by decide +kernel
theorem eX11_joins_39 : decode MX11_joins.2.1 39 = .ok (.aload_n 0, 1) := by decide +kernel
theorem eX11_joins_40 : decode MX11_joins.2.1 40 = .ok (.getfield 30, 3) := by decide +kernel
theorem eX11_joins_43 : decode MX11_joins.2.1 43 = .ok (.iload_n 3, 1) := by decide +kernel
theorem eX11_joins_44 : decode MX11_joins.2.1 44 = .ok (.iaload, 1) := by decide +kernel
theorem eX11_joins_45 : decode MX11_joins.2.1 45 = .ok (.iastore, 1) := by decide +kernel
theorem eX11_joins_46 : decode MX11_joins.2.1 46 = .ok (.iinc 3 1, 3) := by decide +kernel
theorem eX11_joins_49 : decode MX11_joins.2.1 49 = .ok (.goto (-47), 3) := by decide +kernel
theorem eX11_joins_52 : decode MX11_joins.2.1 52 = .ok (.iconst 0, 1) := by decide +kernel
theorem eX11_joins_53 : decode MX11_joins.2.1 53 = .ok (.istore_n 3, 1) := by decide +kernel
theorem eX11_joins_54 : decode MX11_joins.2.1 54 = .ok (.iload_n 3, 1) := by decide +kernel
theorem eX11_joins_55 : decode MX11_joins.2.1 55 = .ok (.bipush 32, 2) := by decide +kernel
theorem eX11_joins_57 : decode MX11_joins.2.1 57 = .ok (.if_icmp .ge 21, 3) := by decide +kernel
theorem eX11_joins_60 : decode MX11_joins.2.1 60 = .ok (.aload_n 0, 1) := by decide +kernel
theorem eX11_joins_61 : decode MX11_joins.2.1 61 = .ok (.getfield 30, 3) := by decide +kernel
theorem eX11_joins_64 : decode MX11_joins.2.1 64 = .ok (.iload_n 3, 1) := by decide +kernel
theorem eX11_joins_65 : decode MX11_joins.2.1 65 = .ok (.aload_n 0, 1) := by decide +kernel
theorem eX11_joins_66 : decode MX11_joins.2.1 66 = .ok (.getfield 33, 3) := by decide +kernel
theorem eX11_joins_69 : decode MX11_joins.2.1 69 = .ok (.iload_n 3, 1) := by decide +kernel
theorem eX11_joins_70 : decode MX11_joins.2.1 70 = .ok (.iaload, 1) := by decide +kernel
theorem eX11_joins_71 : decode MX11_joins.2.1 71 = .ok (.iastore, 1) := by decide +kernel
theorem eX11_joins_72 : decode MX11_joins.2.1 72 = .ok (.iinc 3 1, 3) := by decide +kernel
theorem eX11_joins_75 : decode MX11_joins.2.1 75 = .ok (.goto (-21), 3) := by decide +kernel
theorem eX11_joins_78 : decode MX11_joins.2.1 78 = .ok (.return_, 1) := by decide +kernel
theorem eX11_cellsOf_0 : decode MX11_cellsOf.2.1 0 = .ok (.aload_n 0, 1) := by decide +kernel
theorem eX11_cellsOf_1 : decode MX11_cellsOf.2.1 1 = .ok (.getfield 16, 3) := by decide +kernel
theorem eX11_cellsOf_4 : decode MX11_cellsOf.2.1 4 = .ok (.bipush 32, 2) := by decide +kernel
theorem eX11_cellsOf_6 : decode MX11_cellsOf.2.1 6 = .ok (.iload_n 1, 1) := by decide +kernel
theorem eX11_cellsOf_7 : decode MX11_cellsOf.2.1 7 = .ok (.imul, 1) := by decide +kernel
theorem eX11_cellsOf_8 : decode MX11_cellsOf.2.1 8 = .ok (.iload_n 2, 1) := by decide +kernel
theorem eX11_cellsOf_9 : decode MX11_cellsOf.2.1 9 = .ok (.iadd, 1) := by decide +kernel
theorem eX11_cellsOf_10 : decode MX11_cellsOf.2.1 10 = .ok (.laload, 1) := by decide +kernel
theorem eX11_cellsOf_11 : decode MX11_cellsOf.2.1 11 = .ok (.lreturn, 1) := by decide +kernel
theorem eX11_goesTo_0 : decode MX11_goesTo.2.1 0 = .ok (.aload_n 0, 1) := by decide +kernel
theorem eX11_goesTo_1 : decode MX11_goesTo.2.1 1 = .ok (.invokevirtual 91, 3) := by decide +kernel
theorem eX11_goesTo_4 : decode MX11_goesTo.2.1 4 = .ok (.iconst 0, 1) := by decide +kernel
theorem eX11_goesTo_5 : decode MX11_goesTo.2.1 5 = .ok (.istore_n 3, 1) := by decide +kernel
theorem eX11_goesTo_6 : decode MX11_goesTo.2.1 6 = .ok (.iload_n 3, 1) := by decide +kernel
theorem eX11_goesTo_7 : decode MX11_goesTo.2.1 7 = .ok (.iload_n 2, 1) := by decide +kernel
theorem eX11_goesTo_8 : decode MX11_goesTo.2.1 8 = .ok (.if_icmp .ge 19, 3) := by decide +kernel
theorem eX11_goesTo_11 : decode MX11_goesTo.2.1 11 = .ok (.aload_n 0, 1) := by decide +kernel
theorem eX11_goesTo_12 : decode MX11_goesTo.2.1 12 = .ok (.aload_n 0, 1) := by decide +kernel
theorem eX11_goesTo_13 : decode MX11_goesTo.2.1 13 = .ok (.iload_n 1, 1) := by decide +kernel
theorem eX11_goesTo_14 : decode MX11_goesTo.2.1 14 = .ok (.iload_n 3, 1) := by decide +kernel
theorem eX11_goesTo_15 : decode MX11_goesTo.2.1 15 = .ok (.invokevirtual 94, 3) := by decide +kernel
theorem eX11_goesTo_18 : decode MX11_goesTo.2.1 18 = .ok (.invokevirtual 98, 3) := by decide +kernel
theorem eX11_goesTo_21 : decode MX11_goesTo.2.1 21 = .ok (.iinc 3 1, 3) := by decide +kernel
theorem eX11_goesTo_24 : decode MX11_goesTo.2.1 24 = .ok (.goto (-18), 3) := by decide +kernel
theorem eX11_goesTo_27 : decode MX11_goesTo.2.1 27 = .ok (.return_, 1) := by decide +kernel
theorem eX11_isWhole_0 : decode MX11_isWhole.2.1 0 = .ok (.aload_n 0, 1) := by decide +kernel
theorem eX11_isWhole_1 : decode MX11_isWhole.2.1 1 = .ok (.iload_n 1, 1) := by decide +kernel
theorem eX11_isWhole_2 : decode MX11_isWhole.2.1 2 = .ok (.aload_n 0, 1) := by decide +kernel
theorem eX11_isWhole_3 : decode MX11_isWhole.2.1 3 = .ok (.getfield 13, 3) := by decide +kernel
theorem eX11_isWhole_6 : decode MX11_isWhole.2.1 6 = .ok (.iload_n 1, 1) := by decide +kernel
theorem eX11_isWhole_7 : decode MX11_isWhole.2.1 7 = .ok (.iaload, 1) := by decide +kernel
theorem eX11_isWhole_8 : decode MX11_isWhole.2.1 8 = .ok (.invokevirtual 102, 3) := by decide +kernel
theorem eX11_isWhole_11 : decode MX11_isWhole.2.1 11 = .ok (.iconst 1, 1) := by decide +kernel
theorem eX11_isWhole_12 : decode MX11_isWhole.2.1 12 = .ok (.istore_n 2, 1) := by decide +kernel
theorem eX11_isWhole_13 : decode MX11_isWhole.2.1 13 = .ok (.iconst 0, 1) := by decide +kernel
theorem eX11_isWhole_14 : decode MX11_isWhole.2.1 14 = .ok (.istore_n 3, 1) := by decide +kernel
theorem eX11_isWhole_15 : decode MX11_isWhole.2.1 15 = .ok (.iload_n 3, 1) := by decide +kernel
theorem eX11_isWhole_16 : decode MX11_isWhole.2.1 16 = .ok (.aload_n 0, 1) := by decide +kernel
theorem eX11_isWhole_17 : decode MX11_isWhole.2.1 17 = .ok (.getfield 7, 3) := by decide +kernel
theorem eX11_isWhole_20 : decode MX11_isWhole.2.1 20 = .ok (.iload_n 1, 1) := by decide +kernel
theorem eX11_isWhole_21 : decode MX11_isWhole.2.1 21 = .ok (.iaload, 1) := by decide +kernel
theorem eX11_isWhole_22 : decode MX11_isWhole.2.1 22 = .ok (.if_icmp .ge 28, 3) := by decide +kernel
theorem eX11_isWhole_25 : decode MX11_isWhole.2.1 25 = .ok (.iload_n 2, 1) := by decide +kernel
theorem eX11_isWhole_26 : decode MX11_isWhole.2.1 26 = .ok (.ifCond .eq 16, 3) := by decide +kernel
theorem eX11_isWhole_29 : decode MX11_isWhole.2.1 29 = .ok (.aload_n 0, 1) := by decide +kernel
theorem eX11_isWhole_30 : decode MX11_isWhole.2.1 30 = .ok (.getfield 30, 3) := by decide +kernel
theorem eX11_isWhole_33 : decode MX11_isWhole.2.1 33 = .ok (.iload_n 3, 1) := by decide +kernel
theorem eX11_isWhole_34 : decode MX11_isWhole.2.1 34 = .ok (.iaload, 1) := by decide +kernel
theorem eX11_isWhole_35 : decode MX11_isWhole.2.1 35 = .ok (.ifCond .ne 7, 3) := by decide +kernel
theorem eX11_isWhole_38 : decode MX11_isWhole.2.1 38 = .ok (.iconst 1, 1) := by decide +kernel
theorem eX11_isWhole_39 : decode MX11_isWhole.2.1 39 = .ok (.goto 4, 3) := by decide +kernel
theorem eX11_isWhole_42 : decode MX11_isWhole.2.1 42 = .ok (.iconst 0, 1) := by decide +kernel
theorem eX11_isWhole_43 : decode MX11_isWhole.2.1 43 = .ok (.istore_n 2, 1) := by decide +kernel
theorem eX11_isWhole_44 : decode MX11_isWhole.2.1 44 = .ok (.iinc 3 1, 3) := by decide +kernel
theorem eX11_isWhole_47 : decode MX11_isWhole.2.1 47 = .ok (.goto (-32), 3) := by decide +kernel
theorem eX11_isWhole_50 : decode MX11_isWhole.2.1 50 = .ok (.iload_n 2, 1) := by decide +kernel
theorem eX11_isWhole_51 : decode MX11_isWhole.2.1 51 = .ok (.ireturn, 1) := by decide +kernel
theorem eX11_isNet_0 : decode MX11_isNet.2.1 0 = .ok (.iload_n 1, 1) := by decide +kernel
theorem eX11_isNet_1 : decode MX11_isNet.2.1 1 = .ok (.i2l, 1) := by decide +kernel
theorem eX11_isNet_2 : decode MX11_isNet.2.1 2 = .ok (.lconst 0, 1) := by decide +kernel
theorem eX11_isNet_3 : decode MX11_isNet.2.1 3 = .ok (.aload_n 0, 1) := by decide +kernel
theorem eX11_isNet_4 : decode MX11_isNet.2.1 4 = .ok (.getfield 106, 3) := by decide +kernel
theorem eX11_isNet_7 : decode MX11_isNet.2.1 7 = .ok (.iconst 1, 1) := by decide +kernel
theorem eX11_isNet_8 : decode MX11_isNet.2.1 8 = .ok (.isub, 1) := by decide +kernel
theorem eX11_isNet_9 : decode MX11_isNet.2.1 9 = .ok (.i2l, 1) := by decide +kernel
theorem eX11_isNet_10 : decode MX11_isNet.2.1 10 = .ok (.invokestatic 109, 3) := by decide +kernel
theorem eX11_isNet_13 : decode MX11_isNet.2.1 13 = .ok (.ireturn, 1) := by decide +kernel
theorem eX11_feed_0 : decode MX11_feed.2.1 0 = .ok (.aload_n 0, 1) := by decide +kernel
theorem eX11_feed_1 : decode MX11_feed.2.1 1 = .ok (.getfield 113, 3) := by decide +kernel
theorem eX11_feed_4 : decode MX11_feed.2.1 4 = .ok (.bipush 8, 2) := by decide +kernel
theorem eX11_feed_6 : decode MX11_feed.2.1 6 = .ok (.iadd, 1) := by decide +kernel
theorem eX11_feed_7 : decode MX11_feed.2.1 7 = .ok (.sipush 240, 3) := by decide +kernel
theorem eX11_feed_10 : decode MX11_feed.2.1 10 = .ok (.if_icmp .le 6, 3) := by decide +kernel
theorem eX11_feed_13 : decode MX11_feed.2.1 13 = .ok (.bipush (-3), 2) := by decide +kernel
theorem eX11_feed_15 : decode MX11_feed.2.1 15 = .ok (.ireturn, 1) := by decide +kernel
theorem eX11_feed_16 : decode MX11_feed.2.1 16 = .ok (.bipush 56, 2) := by decide +kernel
theorem eX11_feed_18 : decode MX11_feed.2.1 18 = .ok (.istore_n 3, 1) := by decide +kernel
theorem eX11_feed_19 : decode MX11_feed.2.1 19 = .ok (.iload_n 3, 1) := by decide +kernel
theorem eX11_feed_20 : decode MX11_feed.2.1 20 = .ok (.ifCond .lt 36, 3) := by decide +kernel
theorem eX11_feed_23 : decode MX11_feed.2.1 23 = .ok (.aload_n 0, 1) := by decide +kernel
theorem eX11_feed_24 : decode MX11_feed.2.1 24 = .ok (.getfield 36, 3) := by decide +kernel
theorem eX11_feed_27 : decode MX11_feed.2.1 27 = .ok (.aload_n 0, 1) := by decide +kernel
theorem eX11_feed_28 : decode MX11_feed.2.1 28 = .ok (.getfield 113, 3) := by decide +kernel
theorem eX11_feed_31 : decode MX11_feed.2.1 31 = .ok (.lload_n 1, 1) := by decide +kernel
theorem eX11_feed_32 : decode MX11_feed.2.1 32 = .ok (.iload_n 3, 1) := by decide +kernel
theorem eX11_feed_33 : decode MX11_feed.2.1 33 = .ok (.lshr, 1) := by decide +kernel
theorem eX11_feed_34 : decode MX11_feed.2.1 34 = .ok (.ldc2_w 116, 3) := by decide +kernel
theorem eX11_feed_37 : decode MX11_feed.2.1 37 = .ok (.land, 1) := by decide +kernel
theorem eX11_feed_38 : decode MX11_feed.2.1 38 = .ok (.l2i, 1) := by decide +kernel
theorem eX11_feed_39 : decode MX11_feed.2.1 39 = .ok (.iastore, 1) := by decide +kernel
theorem eX11_feed_40 : decode MX11_feed.2.1 40 = .ok (.aload_n 0, 1) := by decide +kernel
theorem eX11_feed_41 : decode MX11_feed.2.1 41 = .ok (.dup, 1) := by decide +kernel
theorem eX11_feed_42 : decode MX11_feed.2.1 42 = .ok (.getfield 113, 3) := by decide +kernel
theorem eX11_feed_45 : decode MX11_feed.2.1 45 = .ok (.iconst 1, 1) := by decide +kernel
theorem eX11_feed_46 : decode MX11_feed.2.1 46 = .ok (.iadd, 1) := by decide +kernel
theorem eX11_feed_47 : decode MX11_feed.2.1 47 = .ok (.putfield 113, 3) := by decide +kernel
theorem eX11_feed_50 : decode MX11_feed.2.1 50 = .ok (.iinc 3 (-8), 3) := by decide +kernel
theorem eX11_feed_53 : decode MX11_feed.2.1 53 = .ok (.goto (-34), 3) := by decide +kernel
theorem eX11_feed_56 : decode MX11_feed.2.1 56 = .ok (.aload_n 0, 1) := by decide +kernel
theorem eX11_feed_57 : decode MX11_feed.2.1 57 = .ok (.getfield 113, 3) := by decide +kernel
theorem eX11_feed_60 : decode MX11_feed.2.1 60 = .ok (.ireturn, 1) := by decide +kernel
theorem eX11_end_0 : decode MX11_end.2.1 0 = .ok (.iload_n 1, 1) := by decide +kernel
theorem eX11_end_1 : decode MX11_end.2.1 1 = .ok (.i2l, 1) := by decide +kernel
theorem eX11_end_2 : decode MX11_end.2.1 2 = .ok (.lconst 0, 1) := by decide +kernel
theorem eX11_end_3 : decode MX11_end.2.1 3 = .ok (.aload_n 0, 1) := by decide +kernel
theorem eX11_end_4 : decode MX11_end.2.1 4 = .ok (.getfield 113, 3) := by decide +kernel
theorem eX11_end_7 : decode MX11_end.2.1 7 = .ok (.i2l, 1) := by decide +kernel
theorem eX11_end_8 : decode MX11_end.2.1 8 = .ok (.invokestatic 109, 3) := by decide +kernel
theorem eX11_end_11 : decode MX11_end.2.1 11 = .ok (.ifCond .ne 5, 3) := by decide +kernel
theorem eX11_end_14 : decode MX11_end.2.1 14 = .ok (.iconst (-1), 1) := by decide +kernel
theorem eX11_end_15 : decode MX11_end.2.1 15 = .ok (.ireturn, 1) := by decide +kernel
theorem eX11_end_16 : decode MX11_end.2.1 16 = .ok (.aload_n 0, 1) := by decide +kernel
theorem eX11_end_17 : decode MX11_end.2.1 17 = .ok (.getfield 113, 3) := by decide +kernel
theorem eX11_end_20 : decode MX11_end.2.1 20 = .ok (.istore_n 2, 1) := by decide +kernel
theorem eX11_end_21 : decode MX11_end.2.1 21 = .ok (.aload_n 0, 1) := by decide +kernel
theorem eX11_end_22 : decode MX11_end.2.1 22 = .ok (.iload_n 1, 1) := by decide +kernel
theorem eX11_end_23 : decode MX11_end.2.1 23 = .ok (.putfield 113, 3) := by decide +kernel
theorem eX11_end_26 : decode MX11_end.2.1 26 = .ok (.iload_n 2, 1) := by decide +kernel
theorem eX11_end_27 : decode MX11_end.2.1 27 = .ok (.ireturn, 1) := by decide +kernel
theorem eX11_wants_0 : decode MX11_wants.2.1 0 = .ok (.iload_n 1, 1) := by decide +kernel
theorem eX11_wants_1 : decode MX11_wants.2.1 1 = .ok (.ifCond .ne 23, 3) := by decide +kernel
theorem eX11_wants_4 : decode MX11_wants.2.1 4 = .ok (.aload_n 0, 1) := by decide +kernel
theorem eX11_wants_5 : decode MX11_wants.2.1 5 = .ok (.getfield 118, 3) := by decide +kernel
theorem eX11_wants_8 : decode MX11_wants.2.1 8 = .ok (.ifCond .ne 16, 3) := by decide +kernel
theorem eX11_wants_11 : decode MX11_wants.2.1 11 = .ok (.aload_n 0, 1) := by decide +kernel
theorem eX11_wants_12 : decode MX11_wants.2.1 12 = .ok (.iload_n 2, 1) := by decide +kernel
theorem eX11_wants_13 : decode MX11_wants.2.1 13 = .ok (.putfield 118, 3) := by decide +kernel
theorem eX11_wants_16 : decode MX11_wants.2.1 16 = .ok (.aload_n 0, 1) := by decide +kernel
theorem eX11_wants_17 : decode MX11_wants.2.1 17 = .ok (.aload_n 0, 1) := by decide +kernel
theorem eX11_wants_18 : decode MX11_wants.2.1 18 = .ok (.getfield 121, 3) := by decide +kernel
theorem eX11_wants_21 : decode MX11_wants.2.1 21 = .ok (.putfield 124, 3) := by decide +kernel
theorem eX11_wants_24 : decode MX11_wants.2.1 24 = .ok (.return_, 1) := by decide +kernel
theorem eX11_look_0 : decode MX11_look.2.1 0 = .ok (.iload_n 1, 1) := by decide +kernel
theorem eX11_look_1 : decode MX11_look.2.1 1 = .ok (.aload_n 0, 1) := by decide +kernel
theorem eX11_look_2 : decode MX11_look.2.1 2 = .ok (.getfield 113, 3) := by decide +kernel
theorem eX11_look_5 : decode MX11_look.2.1 5 = .ok (.if_icmp .ge 12, 3) := by decide +kernel
theorem eX11_look_8 : decode MX11_look.2.1 8 = .ok (.aload_n 0, 1) := by decide +kernel
theorem eX11_look_9 : decode MX11_look.2.1 9 = .ok (.getfield 36, 3) := by decide +kernel
theorem eX11_look_12 : decode MX11_look.2.1 12 = .ok (.iload_n 1, 1) := by decide +kernel
theorem eX11_look_13 : decode MX11_look.2.1 13 = .ok (.iaload, 1) := by decide +kernel
theorem eX11_look_14 : decode MX11_look.2.1 14 = .ok (.goto 4, 3) := by decide +kernel
theorem eX11_look_17 : decode MX11_look.2.1 17 = .ok (.iconst (-1), 1) := by decide +kernel
theorem eX11_look_18 : decode MX11_look.2.1 18 = .ok (.ireturn, 1) := by decide +kernel
theorem eX11_next_0 : decode MX11_next.2.1 0 = .ok (.aload_n 0, 1) := by decide +kernel
theorem eX11_next_1 : decode MX11_next.2.1 1 = .ok (.getfield 118, 3) := by decide +kernel
theorem eX11_next_4 : decode MX11_next.2.1 4 = .ok (.ifCond .le 4, 3) := by decide +kernel
theorem eX11_next_7 : decode MX11_next.2.1 7 = .ok (.return_, 1) := by decide +kernel
theorem eX11_next_8 : decode MX11_next.2.1 8 = .ok (.aload_n 0, 1) := by decide +kernel
theorem eX11_next_9 : decode MX11_next.2.1 9 = .ok (.aload_n 0, 1) := by decide +kernel
theorem eX11_next_10 : decode MX11_next.2.1 10 = .ok (.getfield 127, 3) := by decide +kernel
theorem eX11_next_13 : decode MX11_next.2.1 13 = .ok (.invokevirtual 130, 3) := by decide +kernel
theorem eX11_next_16 : decode MX11_next.2.1 16 = .ok (.bipush 32, 2) := by decide +kernel
theorem eX11_next_18 : decode MX11_next.2.1 18 = .ok (.if_icmp .ne 16, 3) := by decide +kernel
theorem eX11_next_21 : decode MX11_next.2.1 21 = .ok (.aload_n 0, 1) := by decide +kernel
theorem eX11_next_22 : decode MX11_next.2.1 22 = .ok (.dup, 1) := by decide +kernel
theorem eX11_next_23 : decode MX11_next.2.1 23 = .ok (.getfield 127, 3) := by decide +kernel
theorem eX11_next_26 : decode MX11_next.2.1 26 = .ok (.iconst 1, 1) := by decide +kernel
theorem eX11_next_27 : decode MX11_next.2.1 27 = .ok (.iadd, 1) := by decide +kernel
theorem eX11_next_28 : decode MX11_next.2.1 28 = .ok (.putfield 127, 3) := by decide +kernel
theorem eX11_next_31 : decode MX11_next.2.1 31 = .ok (.goto (-23), 3) := by decide +kernel
theorem eX11_next_34 : decode MX11_next.2.1 34 = .ok (.aload_n 0, 1) := by decide +kernel
theorem eX11_next_35 : decode MX11_next.2.1 35 = .ok (.aload_n 0, 1) := by decide +kernel
theorem eX11_next_36 : decode MX11_next.2.1 36 = .ok (.getfield 127, 3) := by decide +kernel
theorem eX11_next_39 : decode MX11_next.2.1 39 = .ok (.putfield 121, 3) := by decide +kernel
theorem eX11_next_42 : decode MX11_next.2.1 42 = .ok (.aload_n 0, 1) := by decide +kernel
theorem eX11_next_43 : decode MX11_next.2.1 43 = .ok (.aload_n 0, 1) := by decide +kernel
theorem eX11_next_44 : decode MX11_next.2.1 44 = .ok (.getfield 127, 3) := by decide +kernel
theorem eX11_next_47 : decode MX11_next.2.1 47 = .ok (.invokevirtual 130, 3) := by decide +kernel
theorem eX11_next_50 : decode MX11_next.2.1 50 = .ok (.istore_n 1, 1) := by decide +kernel
theorem eX11_next_51 : decode MX11_next.2.1 51 = .ok (.iload_n 1, 1) := by decide +kernel
theorem eX11_next_52 : decode MX11_next.2.1 52 = .ok (.ifCond .ge 11, 3) := by decide +kernel
theorem eX11_next_55 : decode MX11_next.2.1 55 = .ok (.aload_n 0, 1) := by decide +kernel
theorem eX11_next_56 : decode MX11_next.2.1 56 = .ok (.iconst 0, 1) := by decide +kernel
theorem eX11_next_57 : decode MX11_next.2.1 57 = .ok (.putfield 134, 3) := by decide +kernel
theorem eX11_next_60 : decode MX11_next.2.1 60 = .ok (.goto 178, 3) := by decide +kernel
theorem eX11_next_63 : decode MX11_next.2.1 63 = .ok (.iload_n 1, 1) := by decide +kernel
theorem eX11_next_64 : decode MX11_next.2.1 64 = .ok (.i2l, 1) := by decide +kernel
theorem eX11_next_65 : decode MX11_next.2.1 65 = .ok (.ldc2_w 137, 3) := by decide +kernel
theorem eX11_next_68 : decode MX11_next.2.1 68 = .ok (.ldc2_w 139, 3) := by decide +kernel
theorem eX11_next_71 : decode MX11_next.2.1 71 = .ok (.invokestatic 109, 3) := by decide +kernel
theorem eX11_next_74 : decode MX11_next.2.1 74 = .ok (.ifCond .eq 116, 3) := by decide +kernel
theorem eX11_next_77 : decode MX11_next.2.1 77 = .ok (.aload_n 0, 1) := by decide +kernel
theorem eX11_next_78 : decode MX11_next.2.1 78 = .ok (.iconst 1, 1) := by decide +kernel
theorem eX11_next_79 : decode MX11_next.2.1 79 = .ok (.putfield 134, 3) := by decide +kernel
theorem eX11_next_82 : decode MX11_next.2.1 82 = .ok (.aload_n 0, 1) := by decide +kernel
theorem eX11_next_83 : decode MX11_next.2.1 83 = .ok (.iconst 0, 1) := by decide +kernel
theorem eX11_next_84 : decode MX11_next.2.1 84 = .ok (.putfield 141, 3) := by decide +kernel
theorem eX11_next_87 : decode MX11_next.2.1 87 = .ok (.aload_n 0, 1) := by decide +kernel
theorem eX11_next_88 : decode MX11_next.2.1 88 = .ok (.aload_n 0, 1) := by decide +kernel
theorem eX11_next_89 : decode MX11_next.2.1 89 = .ok (.getfield 127, 3) := by decide +kernel
theorem eX11_next_92 : decode MX11_next.2.1 92 = .ok (.invokevirtual 130, 3) := by decide +kernel
theorem eX11_next_95 : decode MX11_next.2.1 95 = .ok (.i2l, 1) := by decide +kernel
theorem eX11_next_96 : decode MX11_next.2.1 96 = .ok (.ldc2_w 137, 3) := by decide +kernel
theorem eX11_next_99 : decode MX11_next.2.1 99 = .ok (.ldc2_w 139, 3) := by decide +kernel
theorem eX11_next_102 : decode MX11_next.2.1 102 = .ok (.invokestatic 109, 3) := by decide +kernel
theorem eX11_next_105 : decode MX11_next.2.1 105 = .ok (.ifCond .eq 59, 3) := by decide +kernel
theorem eX11_next_108 : decode MX11_next.2.1 108 = .ok (.aload_n 0, 1) := by decide +kernel
theorem eX11_next_109 : decode MX11_next.2.1 109 = .ok (.aload_n 0, 1) := by decide +kernel
theorem eX11_next_110 : decode MX11_next.2.1 110 = .ok (.getfield 127, 3) := by decide +kernel
theorem eX11_next_113 : decode MX11_next.2.1 113 = .ok (.aload_n 0, 1) := by decide +kernel
theorem eX11_next_114 : decode MX11_next.2.1 114 = .ok (.getfield 121, 3) := by decide +kernel
theorem eX11_next_117 : decode MX11_next.2.1 117 = .ok (.isub, 1) := by decide +kernel
theorem eX11_next_118 : decode MX11_next.2.1 118 = .ok (.iconst 2, 1) := by decide +kernel
theorem eX11_next_119 : decode MX11_next.2.1 119 = .ok (.if_icmp .ge 25, 3) := by decide +kernel
theorem eX11_next_122 : decode MX11_next.2.1 122 = .ok (.bipush 10, 2) := by decide +kernel
theorem eX11_next_124 : decode MX11_next.2.1 124 = .ok (.aload_n 0, 1) := by decide +kernel
theorem eX11_next_125 : decode MX11_next.2.1 125 = .ok (.getfield 141, 3) := by decide +kernel
theorem eX11_next_128 : decode MX11_next.2.1 128 = .ok (.imul, 1) := by decide +kernel
theorem eX11_next_129 : decode MX11_next.2.1 129 = .ok (.aload_n 0, 1) := by decide +kernel
theorem eX11_next_130 : decode MX11_next.2.1 130 = .ok (.aload_n 0, 1) := by decide +kernel
theorem eX11_next_131 : decode MX11_next.2.1 131 = .ok (.getfield 127, 3) := by decide +kernel
theorem eX11_next_134 : decode MX11_next.2.1 134 = .ok (.invokevirtual 130, 3) := by decide +kernel
theorem eX11_next_137 : decode MX11_next.2.1 137 = .ok (.iadd, 1) := by decide +kernel
theorem eX11_next_138 : decode MX11_next.2.1 138 = .ok (.bipush 48, 2) := by decide +kernel
theorem eX11_next_140 : decode MX11_next.2.1 140 = .ok (.isub, 1) := by decide +kernel
theorem eX11_next_141 : decode MX11_next.2.1 141 = .ok (.goto 7, 3) := by decide +kernel
theorem eX11_next_144 : decode MX11_next.2.1 144 = .ok (.aload_n 0, 1) := by decide +kernel
theorem eX11_next_145 : decode MX11_next.2.1 145 = .ok (.getfield 141, 3) := by decide +kernel
theorem eX11_next_148 : decode MX11_next.2.1 148 = .ok (.putfield 141, 3) := by decide +kernel
theorem eX11_next_151 : decode MX11_next.2.1 151 = .ok (.aload_n 0, 1) := by decide +kernel
theorem eX11_next_152 : decode MX11_next.2.1 152 = .ok (.dup, 1) := by decide +kernel
theorem eX11_next_153 : decode MX11_next.2.1 153 = .ok (.getfield 127, 3) := by decide +kernel
theorem eX11_next_156 : decode MX11_next.2.1 156 = .ok (.iconst 1, 1) := by decide +kernel
theorem eX11_next_157 : decode MX11_next.2.1 157 = .ok (.iadd, 1) := by decide +kernel
theorem eX11_next_158 : decode MX11_next.2.1 158 = .ok (.putfield 127, 3) := by decide +kernel
theorem eX11_next_161 : decode MX11_next.2.1 161 = .ok (.goto (-74), 3) := by decide +kernel
theorem eX11_next_164 : decode MX11_next.2.1 164 = .ok (.aload_n 0, 1) := by decide +kernel
theorem eX11_next_165 : decode MX11_next.2.1 165 = .ok (.aload_n 0, 1) := by decide +kernel
theorem eX11_next_166 : decode MX11_next.2.1 166 = .ok (.getfield 127, 3) := by decide +kernel
theorem eX11_next_169 : decode MX11_next.2.1 169 = .ok (.aload_n 0, 1) := by decide +kernel
theorem eX11_next_170 : decode MX11_next.2.1 170 = .ok (.getfield 121, 3) := by decide +kernel
theorem eX11_next_173 : decode MX11_next.2.1 173 = .ok (.isub, 1) := by decide +kernel
theorem eX11_next_174 : decode MX11_next.2.1 174 = .ok (.iconst 2, 1) := by decide +kernel
theorem eX11_next_175 : decode MX11_next.2.1 175 = .ok (.if_icmp .gt 7, 3) := by decide +kernel
theorem eX11_next_178 : decode MX11_next.2.1 178 = .ok (.iconst 1, 1) := by decide +kernel
theorem eX11_next_179 : decode MX11_next.2.1 179 = .ok (.goto 4, 3) := by decide +kernel
theorem eX11_next_182 : decode MX11_next.2.1 182 = .ok (.iconst 0, 1) := by decide +kernel
theorem eX11_next_183 : decode MX11_next.2.1 183 = .ok (.iconst 1, 1) := by decide +kernel
theorem eX11_next_184 : decode MX11_next.2.1 184 = .ok (.invokevirtual 144, 3) := by decide +kernel
theorem eX11_next_187 : decode MX11_next.2.1 187 = .ok (.goto 51, 3) := by decide +kernel
theorem eX11_next_190 : decode MX11_next.2.1 190 = .ok (.aload_n 0, 1) := by decide +kernel
theorem eX11_next_191 : decode MX11_next.2.1 191 = .ok (.iconst 2, 1) := by decide +kernel
theorem eX11_next_192 : decode MX11_next.2.1 192 = .ok (.putfield 134, 3) := by decide +kernel
theorem eX11_next_195 : decode MX11_next.2.1 195 = .ok (.aload_n 0, 1) := by decide +kernel
theorem eX11_next_196 : decode MX11_next.2.1 196 = .ok (.iload_n 1, 1) := by decide +kernel
theorem eX11_next_197 : decode MX11_next.2.1 197 = .ok (.putfield 141, 3) := by decide +kernel
theorem eX11_next_200 : decode MX11_next.2.1 200 = .ok (.aload_n 0, 1) := by decide +kernel
theorem eX11_next_201 : decode MX11_next.2.1 201 = .ok (.iload_n 1, 1) := by decide +kernel
theorem eX11_next_202 : decode MX11_next.2.1 202 = .ok (.bipush 58, 2) := by decide +kernel
theorem eX11_next_204 : decode MX11_next.2.1 204 = .ok (.if_icmp .eq 15, 3) := by decide +kernel
theorem eX11_next_207 : decode MX11_next.2.1 207 = .ok (.iload_n 1, 1) := by decide +kernel
theorem eX11_next_208 : decode MX11_next.2.1 208 = .ok (.bipush 44, 2) := by decide +kernel
theorem eX11_next_210 : decode MX11_next.2.1 210 = .ok (.if_icmp .eq 9, 3) := by decide +kernel
theorem eX11_next_213 : decode MX11_next.2.1 213 = .ok (.iload_n 1, 1) := by decide +kernel
theorem eX11_next_214 : decode MX11_next.2.1 214 = .ok (.bipush 59, 2) := by decide +kernel
theorem eX11_next_216 : decode MX11_next.2.1 216 = .ok (.if_icmp .ne 7, 3) := by decide +kernel
theorem eX11_next_219 : decode MX11_next.2.1 219 = .ok (.iconst 1, 1) := by decide +kernel
theorem eX11_next_220 : decode MX11_next.2.1 220 = .ok (.goto 4, 3) := by decide +kernel
theorem eX11_next_223 : decode MX11_next.2.1 223 = .ok (.iconst 0, 1) := by decide +kernel
theorem eX11_next_224 : decode MX11_next.2.1 224 = .ok (.iconst 1, 1) := by decide +kernel
theorem eX11_next_225 : decode MX11_next.2.1 225 = .ok (.invokevirtual 144, 3) := by decide +kernel
theorem eX11_next_228 : decode MX11_next.2.1 228 = .ok (.aload_n 0, 1) := by decide +kernel
theorem eX11_next_229 : decode MX11_next.2.1 229 = .ok (.dup, 1) := by decide +kernel
theorem eX11_next_230 : decode MX11_next.2.1 230 = .ok (.getfield 127, 3) := by decide +kernel
theorem eX11_next_233 : decode MX11_next.2.1 233 = .ok (.iconst 1, 1) := by decide +kernel
theorem eX11_next_234 : decode MX11_next.2.1 234 = .ok (.iadd, 1) := by decide +kernel
theorem eX11_next_235 : decode MX11_next.2.1 235 = .ok (.putfield 127, 3) := by decide +kernel
theorem eX11_next_238 : decode MX11_next.2.1 238 = .ok (.return_, 1) := by decide +kernel
theorem eX11_isSign_0 : decode MX11_isSign.2.1 0 = .ok (.aload_n 0, 1) := by decide +kernel
theorem eX11_isSign_1 : decode MX11_isSign.2.1 1 = .ok (.getfield 134, 3) := by decide +kernel
theorem eX11_isSign_4 : decode MX11_isSign.2.1 4 = .ok (.iconst 2, 1) := by decide +kernel
theorem eX11_isSign_5 : decode MX11_isSign.2.1 5 = .ok (.if_icmp .ne 15, 3) := by decide +kernel
theorem eX11_isSign_8 : decode MX11_isSign.2.1 8 = .ok (.aload_n 0, 1) := by decide +kernel
theorem eX11_isSign_9 : decode MX11_isSign.2.1 9 = .ok (.getfield 141, 3) := by decide +kernel
theorem eX11_isSign_12 : decode MX11_isSign.2.1 12 = .ok (.iload_n 1, 1) := by decide +kernel
theorem eX11_isSign_13 : decode MX11_isSign.2.1 13 = .ok (.if_icmp .ne 7, 3) := by decide +kernel
theorem eX11_isSign_16 : decode MX11_isSign.2.1 16 = .ok (.iconst 1, 1) := by decide +kernel
theorem eX11_isSign_17 : decode MX11_isSign.2.1 17 = .ok (.goto 4, 3) := by decide +kernel
theorem eX11_isSign_20 : decode MX11_isSign.2.1 20 = .ok (.iconst 0, 1) := by decide +kernel
theorem eX11_isSign_21 : decode MX11_isSign.2.1 21 = .ok (.ireturn, 1) := by decide +kernel
theorem eX11_readRow_0 : decode MX11_readRow.2.1 0 = .ok (.lconst 0, 1) := by decide +kernel
theorem eX11_readRow_1 : decode MX11_readRow.2.1 1 = .ok (.lstore_n 3, 1) := by decide +kernel
theorem eX11_readRow_2 : decode MX11_readRow.2.1 2 = .ok (.iconst 1, 1) := by decide +kernel
theorem eX11_readRow_3 : decode MX11_readRow.2.1 3 = .ok (.istore 5, 2) := by decide +kernel
theorem eX11_readRow_5 : decode MX11_readRow.2.1 5 = .ok (.aload_n 0, 1) := by decide +kernel
theorem eX11_readRow_6 : decode MX11_readRow.2.1 6 = .ok (.aload_n 0, 1) := by decide +kernel
theorem eX11_readRow_7 : decode MX11_readRow.2.1 7 = .ok (.getfield 134, 3) := by decide +kernel
theorem eX11_readRow_10 : decode MX11_readRow.2.1 10 = .ok (.iconst 1, 1) := by decide +kernel
theorem eX11_readRow_11 : decode MX11_readRow.2.1 11 = .ok (.if_icmp .ne 7, 3) := by decide +kernel
theorem eX11_readRow_14 : decode MX11_readRow.2.1 14 = .ok (.iconst 1, 1) := by decide +kernel
theorem eX11_readRow_15 : decode MX11_readRow.2.1 15 = .ok (.goto 4, 3) := by decide +kernel
theorem eX11_readRow_18 : decode MX11_readRow.2.1 18 = .ok (.iconst 0, 1) := by decide +kernel
theorem eX11_readRow_19 : decode MX11_readRow.2.1 19 = .ok (.iconst 2, 1) := by decide +kernel
theorem eX11_readRow_20 : decode MX11_readRow.2.1 20 = .ok (.invokevirtual 144, 3) := by decide +kernel
theorem eX11_readRow_23 : decode MX11_readRow.2.1 23 = .ok (.aload_n 0, 1) := by decide +kernel
theorem eX11_readRow_24 : decode MX11_readRow.2.1 24 = .ok (.iload_n 2, 1) := by decide +kernel
theorem eX11_readRow_25 : decode MX11_readRow.2.1 25 = .ok (.bipush 32, 2) := by decide +kernel
theorem eX11_readRow_27 : decode MX11_readRow.2.1 27 = .ok (.if_icmp .ge 7, 3) := by decide +kernel
theorem eX11_readRow_30 : decode MX11_readRow.2.1 30 = .ok (.iconst 1, 1) := by decide +kernel
theorem eX11_readRow_31 : decode MX11_readRow.2.1 31 = .ok (.goto 4, 3) := by decide +kernel
theorem eX11_readRow_34 : decode MX11_readRow.2.1 34 = .ok (.iconst 0, 1) := by decide +kernel
theorem eX11_readRow_35 : decode MX11_readRow.2.1 35 = .ok (.iconst 5, 1) := by decide +kernel
theorem eX11_readRow_36 : decode MX11_readRow.2.1 36 = .ok (.invokevirtual 144, 3) := by decide +kernel
theorem eX11_readRow_39 : decode MX11_readRow.2.1 39 = .ok (.iload 5, 2) := by decide +kernel
theorem eX11_readRow_41 : decode MX11_readRow.2.1 41 = .ok (.ifCond .eq 139, 3) := by decide +kernel
theorem eX11_readRow_44 : decode MX11_readRow.2.1 44 = .ok (.aload_n 0, 1) := by decide +kernel
theorem eX11_readRow_45 : decode MX11_readRow.2.1 45 = .ok (.getfield 118, 3) := by decide +kernel
theorem eX11_readRow_48 : decode MX11_readRow.2.1 48 = .ok (.ifCond .ne 132, 3) := by decide +kernel
theorem eX11_readRow_51 : decode MX11_readRow.2.1 51 = .ok (.aload_n 0, 1) := by decide +kernel
theorem eX11_readRow_52 : decode MX11_readRow.2.1 52 = .ok (.aload_n 0, 1) := by decide +kernel
theorem eX11_readRow_53 : decode MX11_readRow.2.1 53 = .ok (.getfield 134, 3) := by decide +kernel
theorem eX11_readRow_56 : decode MX11_readRow.2.1 56 = .ok (.iconst 1, 1) := by decide +kernel
theorem eX11_readRow_57 : decode MX11_readRow.2.1 57 = .ok (.if_icmp .ne 7, 3) := by decide +kernel
theorem eX11_readRow_60 : decode MX11_readRow.2.1 60 = .ok (.iconst 1, 1) := by decide +kernel
theorem eX11_readRow_61 : decode MX11_readRow.2.1 61 = .ok (.goto 4, 3) := by decide +kernel
theorem eX11_readRow_64 : decode MX11_readRow.2.1 64 = .ok (.iconst 0, 1) := by decide +kernel
theorem eX11_readRow_65 : decode MX11_readRow.2.1 65 = .ok (.iconst 2, 1) := by decide +kernel
theorem eX11_readRow_66 : decode MX11_readRow.2.1 66 = .ok (.invokevirtual 144, 3) := by decide +kernel
theorem eX11_readRow_69 : decode MX11_readRow.2.1 69 = .ok (.aload_n 0, 1) := by decide +kernel
theorem eX11_readRow_70 : decode MX11_readRow.2.1 70 = .ok (.getfield 118, 3) := by decide +kernel
theorem eX11_readRow_73 : decode MX11_readRow.2.1 73 = .ok (.ifCond .ne 21, 3) := by decide +kernel
theorem eX11_readRow_76 : decode MX11_readRow.2.1 76 = .ok (.aload_n 0, 1) := by decide +kernel
theorem eX11_readRow_77 : decode MX11_readRow.2.1 77 = .ok (.aload_n 0, 1) := by decide +kernel
theorem eX11_readRow_78 : decode MX11_readRow.2.1 78 = .ok (.getfield 141, 3) := by decide +kernel
theorem eX11_readRow_81 : decode MX11_readRow.2.1 81 = .ok (.iload_n 1, 1) := by decide +kernel
theorem eX11_readRow_82 : decode MX11_readRow.2.1 82 = .ok (.if_icmp .ge 7, 3) := by decide +kernel
theorem eX11_readRow_85 : decode MX11_readRow.2.1 85 = .ok (.iconst 1, 1) := by decide +kernel
theorem eX11_readRow_86 : decode MX11_readRow.2.1 86 = .ok (.goto 4, 3) := by decide +kernel
theorem eX11_readRow_89 : decode MX11_readRow.2.1 89 = .ok (.iconst 0, 1) := by decide +kernel
theorem eX11_readRow_90 : decode MX11_readRow.2.1 90 = .ok (.iconst 3, 1) := by decide +kernel
theorem eX11_readRow_91 : decode MX11_readRow.2.1 91 = .ok (.invokevirtual 144, 3) := by decide +kernel
theorem eX11_readRow_94 : decode MX11_readRow.2.1 94 = .ok (.aload_n 0, 1) := by decide +kernel
theorem eX11_readRow_95 : decode MX11_readRow.2.1 95 = .ok (.getfield 118, 3) := by decide +kernel
theorem eX11_readRow_98 : decode MX11_readRow.2.1 98 = .ok (.ifCond .ne 38, 3) := by decide +kernel
theorem eX11_readRow_101 : decode MX11_readRow.2.1 101 = .ok (.aload_n 0, 1) := by decide +kernel
theorem eX11_readRow_102 : decode MX11_readRow.2.1 102 = .ok (.lload_n 3, 1) := by decide +kernel
theorem eX11_readRow_103 : decode MX11_readRow.2.1 103 = .ok (.aload_n 0, 1) := by decide +kernel
theorem eX11_readRow_104 : decode MX11_readRow.2.1 104 = .ok (.getfield 141, 3) := by decide +kernel
theorem eX11_readRow_107 : decode MX11_readRow.2.1 107 = .ok (.lshr, 1) := by decide +kernel
theorem eX11_readRow_108 : decode MX11_readRow.2.1 108 = .ok (.lconst 1, 1) := by decide +kernel
theorem eX11_readRow_109 : decode MX11_readRow.2.1 109 = .ok (.land, 1) := by decide +kernel
theorem eX11_readRow_110 : decode MX11_readRow.2.1 110 = .ok (.lconst 0, 1) := by decide +kernel
theorem eX11_readRow_111 : decode MX11_readRow.2.1 111 = .ok (.lcmp, 1) := by decide +kernel
theorem eX11_readRow_112 : decode MX11_readRow.2.1 112 = .ok (.ifCond .ne 19, 3) := by decide +kernel
theorem eX11_readRow_115 : decode MX11_readRow.2.1 115 = .ok (.aload_n 0, 1) := by decide +kernel
theorem eX11_readRow_116 : decode MX11_readRow.2.1 116 = .ok (.getfield 30, 3) := by decide +kernel
theorem eX11_readRow_119 : decode MX11_readRow.2.1 119 = .ok (.aload_n 0, 1) := by decide +kernel
theorem eX11_readRow_120 : decode MX11_readRow.2.1 120 = .ok (.getfield 141, 3) := by decide +kernel
theorem eX11_readRow_123 : decode MX11_readRow.2.1 123 = .ok (.iaload, 1) := by decide +kernel
theorem eX11_readRow_124 : decode MX11_readRow.2.1 124 = .ok (.ifCond .le 7, 3) := by decide +kernel
theorem eX11_readRow_127 : decode MX11_readRow.2.1 127 = .ok (.iconst 1, 1) := by decide +kernel
theorem eX11_readRow_128 : decode MX11_readRow.2.1 128 = .ok (.goto 4, 3) := by decide +kernel
theorem eX11_readRow_131 : decode MX11_readRow.2.1 131 = .ok (.iconst 0, 1) := by decide +kernel
theorem eX11_readRow_132 : decode MX11_readRow.2.1 132 = .ok (.iconst 4, 1) := by decide +kernel
theorem eX11_readRow_133 : decode MX11_readRow.2.1 133 = .ok (.invokevirtual 144, 3) := by decide +kernel
theorem eX11_readRow_136 : decode MX11_readRow.2.1 136 = .ok (.lload_n 3, 1) := by decide +kernel
theorem eX11_readRow_137 : decode MX11_readRow.2.1 137 = .ok (.aload_n 0, 1) := by decide +kernel
theorem eX11_readRow_138 : decode MX11_readRow.2.1 138 = .ok (.getfield 118, 3) := by decide +kernel
theorem eX11_readRow_141 : decode MX11_readRow.2.1 141 = .ok (.ifCond .ne 12, 3) := by decide +kernel
theorem eX11_readRow_144 : decode MX11_readRow.2.1 144 = .ok (.lconst 1, 1) := by decide +kernel
theorem eX11_readRow_145 : decode MX11_readRow.2.1 145 = .ok (.aload_n 0, 1) := by decide +kernel
theorem eX11_readRow_146 : decode MX11_readRow.2.1 146 = .ok (.getfield 141, 3) := by decide +kernel
theorem eX11_readRow_149 : decode MX11_readRow.2.1 149 = .ok (.lshl, 1) := by decide +kernel
theorem eX11_readRow_150 : decode MX11_readRow.2.1 150 = .ok (.goto 4, 3) := by decide +kernel
theorem eX11_readRow_153 : decode MX11_readRow.2.1 153 = .ok (.lconst 0, 1) := by decide +kernel
theorem eX11_readRow_154 : decode MX11_readRow.2.1 154 = .ok (.lor, 1) := by decide +kernel
theorem eX11_readRow_155 : decode MX11_readRow.2.1 155 = .ok (.lstore_n 3, 1) := by decide +kernel
theorem eX11_readRow_156 : decode MX11_readRow.2.1 156 = .ok (.aload_n 0, 1) := by decide +kernel
theorem eX11_readRow_157 : decode MX11_readRow.2.1 157 = .ok (.invokevirtual 148, 3) := by decide +kernel
theorem eX11_readRow_160 : decode MX11_readRow.2.1 160 = .ok (.aload_n 0, 1) := by decide +kernel
theorem eX11_readRow_161 : decode MX11_readRow.2.1 161 = .ok (.bipush 44, 2) := by decide +kernel
theorem eX11_readRow_163 : decode MX11_readRow.2.1 163 = .ok (.invokevirtual 151, 3) := by decide +kernel
theorem eX11_readRow_166 : decode MX11_readRow.2.1 166 = .ok (.istore 5, 2) := by decide +kernel
theorem eX11_readRow_168 : decode MX11_readRow.2.1 168 = .ok (.iload 5, 2) := by decide +kernel
theorem eX11_readRow_170 : decode MX11_readRow.2.1 170 = .ok (.ifCond .eq (-131), 3) := by decide +kernel
theorem eX11_readRow_173 : decode MX11_readRow.2.1 173 = .ok (.aload_n 0, 1) := by decide +kernel
theorem eX11_readRow_174 : decode MX11_readRow.2.1 174 = .ok (.invokevirtual 148, 3) := by decide +kernel
theorem eX11_readRow_177 : decode MX11_readRow.2.1 177 = .ok (.goto (-138), 3) := by decide +kernel
theorem eX11_readRow_180 : decode MX11_readRow.2.1 180 = .ok (.aload_n 0, 1) := by decide +kernel
theorem eX11_readRow_181 : decode MX11_readRow.2.1 181 = .ok (.getfield 118, 3) := by decide +kernel
theorem eX11_readRow_184 : decode MX11_readRow.2.1 184 = .ok (.ifCond .ne 14, 3) := by decide +kernel
theorem eX11_readRow_187 : decode MX11_readRow.2.1 187 = .ok (.aload_n 0, 1) := by decide +kernel
theorem eX11_readRow_188 : decode MX11_readRow.2.1 188 = .ok (.aload_n 0, 1) := by decide +kernel
theorem eX11_readRow_189 : decode MX11_readRow.2.1 189 = .ok (.bipush 59, 2) := by decide +kernel
theorem eX11_readRow_191 : decode MX11_readRow.2.1 191 = .ok (.invokevirtual 151, 3) := by decide +kernel
theorem eX11_readRow_194 : decode MX11_readRow.2.1 194 = .ok (.iconst 2, 1) := by decide +kernel
theorem eX11_readRow_195 : decode MX11_readRow.2.1 195 = .ok (.invokevirtual 144, 3) := by decide +kernel
theorem eX11_readRow_198 : decode MX11_readRow.2.1 198 = .ok (.aload_n 0, 1) := by decide +kernel
theorem eX11_readRow_199 : decode MX11_readRow.2.1 199 = .ok (.invokevirtual 148, 3) := by decide +kernel
theorem eX11_readRow_202 : decode MX11_readRow.2.1 202 = .ok (.lload_n 3, 1) := by decide +kernel
theorem eX11_readRow_203 : decode MX11_readRow.2.1 203 = .ok (.lreturn, 1) := by decide +kernel
theorem eX11_text_0 : decode MX11_text.2.1 0 = .ok (.aload_n 0, 1) := by decide +kernel
theorem eX11_text_1 : decode MX11_text.2.1 1 = .ok (.getfield 106, 3) := by decide +kernel
theorem eX11_text_4 : decode MX11_text.2.1 4 = .ok (.bipush 8, 2) := by decide +kernel
theorem eX11_text_6 : decode MX11_text.2.1 6 = .ok (.if_icmp .ne 6, 3) := by decide +kernel
theorem eX11_text_9 : decode MX11_text.2.1 9 = .ok (.bipush (-3), 2) := by decide +kernel
theorem eX11_text_11 : decode MX11_text.2.1 11 = .ok (.ireturn, 1) := by decide +kernel
theorem eX11_text_12 : decode MX11_text.2.1 12 = .ok (.aload_n 0, 1) := by decide +kernel
theorem eX11_text_13 : decode MX11_text.2.1 13 = .ok (.iconst 0, 1) := by decide +kernel
theorem eX11_text_14 : decode MX11_text.2.1 14 = .ok (.putfield 118, 3) := by decide +kernel
theorem eX11_text_17 : decode MX11_text.2.1 17 = .ok (.aload_n 0, 1) := by decide +kernel
theorem eX11_text_18 : decode MX11_text.2.1 18 = .ok (.iconst 0, 1) := by decide +kernel
theorem eX11_text_19 : decode MX11_text.2.1 19 = .ok (.putfield 127, 3) := by decide +kernel
theorem eX11_text_22 : decode MX11_text.2.1 22 = .ok (.aload_n 0, 1) := by decide +kernel
theorem eX11_text_23 : decode MX11_text.2.1 23 = .ok (.invokevirtual 91, 3) := by decide +kernel
theorem eX11_text_26 : decode MX11_text.2.1 26 = .ok (.aload_n 0, 1) := by decide +kernel
theorem eX11_text_27 : decode MX11_text.2.1 27 = .ok (.invokevirtual 148, 3) := by decide +kernel
theorem eX11_text_30 : decode MX11_text.2.1 30 = .ok (.aload_n 0, 1) := by decide +kernel
theorem eX11_text_31 : decode MX11_text.2.1 31 = .ok (.aload_n 0, 1) := by decide +kernel
theorem eX11_text_32 : decode MX11_text.2.1 32 = .ok (.getfield 134, 3) := by decide +kernel
theorem eX11_text_35 : decode MX11_text.2.1 35 = .ok (.iconst 1, 1) := by decide +kernel
theorem eX11_text_36 : decode MX11_text.2.1 36 = .ok (.if_icmp .ne 7, 3) := by decide +kernel
theorem eX11_text_39 : decode MX11_text.2.1 39 = .ok (.iconst 1, 1) := by decide +kernel
theorem eX11_text_40 : decode MX11_text.2.1 40 = .ok (.goto 4, 3) := by decide +kernel
theorem eX11_text_43 : decode MX11_text.2.1 43 = .ok (.iconst 0, 1) := by decide +kernel
theorem eX11_text_44 : decode MX11_text.2.1 44 = .ok (.iconst 2, 1) := by decide +kernel
theorem eX11_text_45 : decode MX11_text.2.1 45 = .ok (.invokevirtual 144, 3) := by decide +kernel
theorem eX11_text_48 : decode MX11_text.2.1 48 = .ok (.aload_n 0, 1) := by decide +kernel
theorem eX11_text_49 : decode MX11_text.2.1 49 = .ok (.getfield 118, 3) := by decide +kernel
theorem eX11_text_52 : decode MX11_text.2.1 52 = .ok (.ifCond .ne 22, 3) := by decide +kernel
theorem eX11_text_55 : decode MX11_text.2.1 55 = .ok (.aload_n 0, 1) := by decide +kernel
theorem eX11_text_56 : decode MX11_text.2.1 56 = .ok (.aload_n 0, 1) := by decide +kernel
theorem eX11_text_57 : decode MX11_text.2.1 57 = .ok (.getfield 141, 3) := by decide +kernel
theorem eX11_text_60 : decode MX11_text.2.1 60 = .ok (.i2l, 1) := by decide +kernel
theorem eX11_text_61 : decode MX11_text.2.1 61 = .ok (.ldc2_w 155, 3) := by decide +kernel
theorem eX11_text_64 : decode MX11_text.2.1 64 = .ok (.ldc2_w 157, 3) := by decide +kernel
theorem eX11_text_67 : decode MX11_text.2.1 67 = .ok (.invokestatic 109, 3) := by decide +kernel
theorem eX11_text_70 : decode MX11_text.2.1 70 = .ok (.iconst 3, 1) := by decide +kernel
theorem eX11_text_71 : decode MX11_text.2.1 71 = .ok (.invokevirtual 144, 3) := by decide +kernel
theorem eX11_text_74 : decode MX11_text.2.1 74 = .ok (.aload_n 0, 1) := by decide +kernel
theorem eX11_text_75 : decode MX11_text.2.1 75 = .ok (.getfield 141, 3) := by decide +kernel
theorem eX11_text_78 : decode MX11_text.2.1 78 = .ok (.istore_n 1, 1) := by decide +kernel
theorem eX11_text_79 : decode MX11_text.2.1 79 = .ok (.aload_n 0, 1) := by decide +kernel
theorem eX11_text_80 : decode MX11_text.2.1 80 = .ok (.invokevirtual 148, 3) := by decide +kernel
theorem eX11_text_83 : decode MX11_text.2.1 83 = .ok (.aload_n 0, 1) := by decide +kernel
theorem eX11_text_84 : decode MX11_text.2.1 84 = .ok (.getfield 118, 3) := by decide +kernel
theorem eX11_text_87 : decode MX11_text.2.1 87 = .ok (.ifCond .ne 14, 3) := by decide +kernel
theorem eX11_text_90 : decode MX11_text.2.1 90 = .ok (.aload_n 0, 1) := by decide +kernel
theorem eX11_text_91 : decode MX11_text.2.1 91 = .ok (.aload_n 0, 1) := by decide +kernel
theorem eX11_text_92 : decode MX11_text.2.1 92 = .ok (.bipush 58, 2) := by decide +kernel
theorem eX11_text_94 : decode MX11_text.2.1 94 = .ok (.invokevirtual 151, 3) := by decide +kernel
theorem eX11_text_97 : decode MX11_text.2.1 97 = .ok (.iconst 2, 1) := by decide +kernel
theorem eX11_text_98 : decode MX11_text.2.1 98 = .ok (.invokevirtual 144, 3) := by decide +kernel
theorem eX11_text_101 : decode MX11_text.2.1 101 = .ok (.aload_n 0, 1) := by decide +kernel
theorem eX11_text_102 : decode MX11_text.2.1 102 = .ok (.invokevirtual 148, 3) := by decide +kernel
theorem eX11_text_105 : decode MX11_text.2.1 105 = .ok (.iconst 0, 1) := by decide +kernel
theorem eX11_text_106 : decode MX11_text.2.1 106 = .ok (.istore_n 2, 1) := by decide +kernel
theorem eX11_text_107 : decode MX11_text.2.1 107 = .ok (.aload_n 0, 1) := by decide +kernel
theorem eX11_text_108 : decode MX11_text.2.1 108 = .ok (.getfield 118, 3) := by decide +kernel
theorem eX11_text_111 : decode MX11_text.2.1 111 = .ok (.ifCond .ne 50, 3) := by decide +kernel
theorem eX11_text_114 : decode MX11_text.2.1 114 = .ok (.aload_n 0, 1) := by decide +kernel
theorem eX11_text_115 : decode MX11_text.2.1 115 = .ok (.getfield 134, 3) := by decide +kernel
theorem eX11_text_118 : decode MX11_text.2.1 118 = .ok (.ifCond .eq 43, 3) := by decide +kernel
theorem eX11_text_121 : decode MX11_text.2.1 121 = .ok (.aload_n 0, 1) := by decide +kernel
theorem eX11_text_122 : decode MX11_text.2.1 122 = .ok (.iload_n 1, 1) := by decide +kernel
theorem eX11_text_123 : decode MX11_text.2.1 123 = .ok (.iload_n 2, 1) := by decide +kernel
theorem eX11_text_124 : decode MX11_text.2.1 124 = .ok (.invokevirtual 159, 3) := by decide +kernel
theorem eX11_text_127 : decode MX11_text.2.1 127 = .ok (.lstore_n 3, 1) := by decide +kernel
theorem eX11_text_128 : decode MX11_text.2.1 128 = .ok (.aload_n 0, 1) := by decide +kernel
theorem eX11_text_129 : decode MX11_text.2.1 129 = .ok (.getfield 118, 3) := by decide +kernel
theorem eX11_text_132 : decode MX11_text.2.1 132 = .ok (.ifCond .ne 26, 3) := by decide +kernel
theorem eX11_text_135 : decode MX11_text.2.1 135 = .ok (.aload_n 0, 1) := by decide +kernel
theorem eX11_text_136 : decode MX11_text.2.1 136 = .ok (.getfield 16, 3) := by decide +kernel
theorem eX11_text_139 : decode MX11_text.2.1 139 = .ok (.bipush 32, 2) := by decide +kernel
theorem eX11_text_141 : decode MX11_text.2.1 141 = .ok (.aload_n 0, 1) := by decide +kernel
theorem eX11_text_142 : decode MX11_text.2.1 142 = .ok (.getfield 106, 3) := by decide +kernel
theorem eX11_text_145 : decode MX11_text.2.1 145 = .ok (.imul, 1) := by decide +kernel
theorem eX11_text_146 : decode MX11_text.2.1 146 = .ok (.iload_n 2, 1) := by decide +kernel
theorem eX11_text_147 : decode MX11_text.2.1 147 = .ok (.iadd, 1) := by decide +kernel
theorem eX11_text_148 : decode MX11_text.2.1 148 = .ok (.lload_n 3, 1) := by decide +kernel
theorem eX11_text_149 : decode MX11_text.2.1 149 = .ok (.lastore, 1) := by decide +kernel
theorem eX11_text_150 : decode MX11_text.2.1 150 = .ok (.aload_n 0, 1) := by decide +kernel
theorem eX11_text_151 : decode MX11_text.2.1 151 = .ok (.lload_n 3, 1) := by decide +kernel
theorem eX11_text_152 : decode MX11_text.2.1 152 = .ok (.invokevirtual 98, 3) := by decide +kernel
theorem eX11_text_155 : decode MX11_text.2.1 155 = .ok (.iinc 2 1, 3) := by decide +kernel
theorem eX11_text_158 : decode MX11_text.2.1 158 = .ok (.goto (-51), 3) := by decide +kernel
theorem eX11_text_161 : decode MX11_text.2.1 161 = .ok (.aload_n 0, 1) := by decide +kernel
theorem eX11_text_162 : decode MX11_text.2.1 162 = .ok (.iconst 0, 1) := by decide +kernel
theorem eX11_text_163 : decode MX11_text.2.1 163 = .ok (.putfield 113, 3) := by decide +kernel
theorem eX11_text_166 : decode MX11_text.2.1 166 = .ok (.aload_n 0, 1) := by decide +kernel
theorem eX11_text_167 : decode MX11_text.2.1 167 = .ok (.getfield 118, 3) := by decide +kernel
theorem eX11_text_170 : decode MX11_text.2.1 170 = .ok (.ifCond .le 11, 3) := by decide +kernel
theorem eX11_text_173 : decode MX11_text.2.1 173 = .ok (.bipush (-10), 2) := by decide +kernel
theorem eX11_text_175 : decode MX11_text.2.1 175 = .ok (.aload_n 0, 1) := by decide +kernel
theorem eX11_text_176 : decode MX11_text.2.1 176 = .ok (.getfield 124, 3) := by decide +kernel
theorem eX11_text_179 : decode MX11_text.2.1 179 = .ok (.isub, 1) := by decide +kernel
theorem eX11_text_180 : decode MX11_text.2.1 180 = .ok (.ireturn, 1) := by decide +kernel
theorem eX11_text_181 : decode MX11_text.2.1 181 = .ok (.aload_n 0, 1) := by decide +kernel
theorem eX11_text_182 : decode MX11_text.2.1 182 = .ok (.getfield 7, 3) := by decide +kernel
theorem eX11_text_185 : decode MX11_text.2.1 185 = .ok (.aload_n 0, 1) := by decide +kernel
theorem eX11_text_186 : decode MX11_text.2.1 186 = .ok (.getfield 106, 3) := by decide +kernel
theorem eX11_text_189 : decode MX11_text.2.1 189 = .ok (.iload_n 1, 1) := by decide +kernel
theorem eX11_text_190 : decode MX11_text.2.1 190 = .ok (.iastore, 1) := by decide +kernel
theorem eX11_text_191 : decode MX11_text.2.1 191 = .ok (.aload_n 0, 1) := by decide +kernel
theorem eX11_text_192 : decode MX11_text.2.1 192 = .ok (.getfield 13, 3) := by decide +kernel
theorem eX11_text_195 : decode MX11_text.2.1 195 = .ok (.aload_n 0, 1) := by decide +kernel
theorem eX11_text_196 : decode MX11_text.2.1 196 = .ok (.getfield 106, 3) := by decide +kernel
theorem eX11_text_199 : decode MX11_text.2.1 199 = .ok (.iload_n 2, 1) := by decide +kernel
theorem eX11_text_200 : decode MX11_text.2.1 200 = .ok (.iastore, 1) := by decide +kernel
theorem eX11_text_201 : decode MX11_text.2.1 201 = .ok (.aload_n 0, 1) := by decide +kernel
theorem eX11_text_202 : decode MX11_text.2.1 202 = .ok (.dup, 1) := by decide +kernel
theorem eX11_text_203 : decode MX11_text.2.1 203 = .ok (.getfield 106, 3) := by decide +kernel
theorem eX11_text_206 : decode MX11_text.2.1 206 = .ok (.iconst 1, 1) := by decide +kernel
theorem eX11_text_207 : decode MX11_text.2.1 207 = .ok (.iadd, 1) := by decide +kernel
theorem eX11_text_208 : decode MX11_text.2.1 208 = .ok (.putfield 106, 3) := by decide +kernel
theorem eX11_text_211 : decode MX11_text.2.1 211 = .ok (.aload_n 0, 1) := by decide +kernel
theorem eX11_text_212 : decode MX11_text.2.1 212 = .ok (.getfield 106, 3) := by decide +kernel
theorem eX11_text_215 : decode MX11_text.2.1 215 = .ok (.iconst 1, 1) := by decide +kernel
theorem eX11_text_216 : decode MX11_text.2.1 216 = .ok (.isub, 1) := by decide +kernel
theorem eX11_text_217 : decode MX11_text.2.1 217 = .ok (.ireturn, 1) := by decide +kernel
theorem eX11_fault_0 : decode MX11_fault.2.1 0 = .ok (.aload_n 0, 1) := by decide +kernel
theorem eX11_fault_1 : decode MX11_fault.2.1 1 = .ok (.getfield 118, 3) := by decide +kernel
theorem eX11_fault_4 : decode MX11_fault.2.1 4 = .ok (.ireturn, 1) := by decide +kernel
theorem eX11_comes_0 : decode MX11_comes.2.1 0 = .ok (.lconst 0, 1) := by decide +kernel
theorem eX11_comes_1 : decode MX11_comes.2.1 1 = .ok (.lstore_n 3, 1) := by decide +kernel
theorem eX11_comes_2 : decode MX11_comes.2.1 2 = .ok (.iconst 0, 1) := by decide +kernel
theorem eX11_comes_3 : decode MX11_comes.2.1 3 = .ok (.istore 5, 2) := by decide +kernel
theorem eX11_comes_5 : decode MX11_comes.2.1 5 = .ok (.iload 5, 2) := by decide +kernel
theorem eX11_comes_7 : decode MX11_comes.2.1 7 = .ok (.aload_n 0, 1) := by decide +kernel
theorem eX11_comes_8 : decode MX11_comes.2.1 8 = .ok (.getfield 7, 3) := by decide +kernel
theorem eX11_comes_11 : decode MX11_comes.2.1 11 = .ok (.aload_n 0, 1) := by decide +kernel
theorem eX11_comes_12 : decode MX11_comes.2.1 12 = .ok (.getfield 106, 3) := by decide +kernel
theorem eX11_comes_15 : decode MX11_comes.2.1 15 = .ok (.iaload, 1) := by decide +kernel
theorem eX11_comes_16 : decode MX11_comes.2.1 16 = .ok (.if_icmp .ge 41, 3) := by decide +kernel
theorem eX11_comes_19 : decode MX11_comes.2.1 19 = .ok (.lload_n 3, 1) := by decide +kernel
theorem eX11_comes_20 : decode MX11_comes.2.1 20 = .ok (.lload_n 1, 1) := by decide +kernel
theorem eX11_comes_21 : decode MX11_comes.2.1 21 = .ok (.iload 5, 2) := by decide +kernel
theorem eX11_comes_23 : decode MX11_comes.2.1 23 = .ok (.lshr, 1) := by decide +kernel
theorem eX11_comes_24 : decode MX11_comes.2.1 24 = .ok (.lconst 1, 1) := by decide +kernel
theorem eX11_comes_25 : decode MX11_comes.2.1 25 = .ok (.land, 1) := by decide +kernel
theorem eX11_comes_26 : decode MX11_comes.2.1 26 = .ok (.lconst 1, 1) := by decide +kernel
theorem eX11_comes_27 : decode MX11_comes.2.1 27 = .ok (.lcmp, 1) := by decide +kernel
theorem eX11_comes_28 : decode MX11_comes.2.1 28 = .ok (.ifCond .ne 20, 3) := by decide +kernel
theorem eX11_comes_31 : decode MX11_comes.2.1 31 = .ok (.aload_n 0, 1) := by decide +kernel
theorem eX11_comes_32 : decode MX11_comes.2.1 32 = .ok (.getfield 30, 3) := by decide +kernel
theorem eX11_comes_35 : decode MX11_comes.2.1 35 = .ok (.iload 5, 2) := by decide +kernel
theorem eX11_comes_37 : decode MX11_comes.2.1 37 = .ok (.iaload, 1) := by decide +kernel
theorem eX11_comes_38 : decode MX11_comes.2.1 38 = .ok (.ifCond .le 10, 3) := by decide +kernel
theorem eX11_comes_41 : decode MX11_comes.2.1 41 = .ok (.lconst 1, 1) := by decide +kernel
theorem eX11_comes_42 : decode MX11_comes.2.1 42 = .ok (.iload 5, 2) := by decide +kernel
theorem eX11_comes_44 : decode MX11_comes.2.1 44 = .ok (.lshl, 1) := by decide +kernel
theorem eX11_comes_45 : decode MX11_comes.2.1 45 = .ok (.goto 4, 3) := by decide +kernel
theorem eX11_comes_48 : decode MX11_comes.2.1 48 = .ok (.lconst 0, 1) := by decide +kernel
theorem eX11_comes_49 : decode MX11_comes.2.1 49 = .ok (.lor, 1) := by decide +kernel
theorem eX11_comes_50 : decode MX11_comes.2.1 50 = .ok (.lstore_n 3, 1) := by decide +kernel
theorem eX11_comes_51 : decode MX11_comes.2.1 51 = .ok (.iinc 5 1, 3) := by decide +kernel
theorem eX11_comes_54 : decode MX11_comes.2.1 54 = .ok (.goto (-49), 3) := by decide +kernel
theorem eX11_comes_57 : decode MX11_comes.2.1 57 = .ok (.lload_n 3, 1) := by decide +kernel
theorem eX11_comes_58 : decode MX11_comes.2.1 58 = .ok (.lconst 0, 1) := by decide +kernel
theorem eX11_comes_59 : decode MX11_comes.2.1 59 = .ok (.lcmp, 1) := by decide +kernel
theorem eX11_comes_60 : decode MX11_comes.2.1 60 = .ok (.ifCond .eq 44, 3) := by decide +kernel
theorem eX11_comes_63 : decode MX11_comes.2.1 63 = .ok (.aload_n 0, 1) := by decide +kernel
theorem eX11_comes_64 : decode MX11_comes.2.1 64 = .ok (.getfield 16, 3) := by decide +kernel
theorem eX11_comes_67 : decode MX11_comes.2.1 67 = .ok (.bipush 32, 2) := by decide +kernel
theorem eX11_comes_69 : decode MX11_comes.2.1 69 = .ok (.aload_n 0, 1) := by decide +kernel
theorem eX11_comes_70 : decode MX11_comes.2.1 70 = .ok (.getfield 106, 3) := by decide +kernel
theorem eX11_comes_73 : decode MX11_comes.2.1 73 = .ok (.imul, 1) := by decide +kernel
theorem eX11_comes_74 : decode MX11_comes.2.1 74 = .ok (.aload_n 0, 1) := by decide +kernel
theorem eX11_comes_75 : decode MX11_comes.2.1 75 = .ok (.getfield 13, 3) := by decide +kernel
theorem eX11_comes_78 : decode MX11_comes.2.1 78 = .ok (.aload_n 0, 1) := by decide +kernel
theorem eX11_comes_79 : decode MX11_comes.2.1 79 = .ok (.getfield 106, 3) := by decide +kernel
theorem eX11_comes_82 : decode MX11_comes.2.1 82 = .ok (.iaload, 1) := by decide +kernel
theorem eX11_comes_83 : decode MX11_comes.2.1 83 = .ok (.iadd, 1) := by decide +kernel
theorem eX11_comes_84 : decode MX11_comes.2.1 84 = .ok (.lload_n 3, 1) := by decide +kernel
theorem eX11_comes_85 : decode MX11_comes.2.1 85 = .ok (.lastore, 1) := by decide +kernel
theorem eX11_comes_86 : decode MX11_comes.2.1 86 = .ok (.aload_n 0, 1) := by decide +kernel
theorem eX11_comes_87 : decode MX11_comes.2.1 87 = .ok (.getfield 13, 3) := by decide +kernel
theorem eX11_comes_90 : decode MX11_comes.2.1 90 = .ok (.aload_n 0, 1) := by decide +kernel
theorem eX11_comes_91 : decode MX11_comes.2.1 91 = .ok (.getfield 106, 3) := by decide +kernel
theorem eX11_comes_94 : decode MX11_comes.2.1 94 = .ok (.dup2, 1) := by decide +kernel
theorem eX11_comes_95 : decode MX11_comes.2.1 95 = .ok (.iaload, 1) := by decide +kernel
theorem eX11_comes_96 : decode MX11_comes.2.1 96 = .ok (.iconst 1, 1) := by decide +kernel
theorem eX11_comes_97 : decode MX11_comes.2.1 97 = .ok (.iadd, 1) := by decide +kernel
theorem eX11_comes_98 : decode MX11_comes.2.1 98 = .ok (.iastore, 1) := by decide +kernel
theorem eX11_comes_99 : decode MX11_comes.2.1 99 = .ok (.aload_n 0, 1) := by decide +kernel
theorem eX11_comes_100 : decode MX11_comes.2.1 100 = .ok (.lload_n 3, 1) := by decide +kernel
theorem eX11_comes_101 : decode MX11_comes.2.1 101 = .ok (.invokevirtual 98, 3) := by decide +kernel
theorem eX11_comes_104 : decode MX11_comes.2.1 104 = .ok (.return_, 1) := by decide +kernel
theorem eX11_placesFrom_0 : decode MX11_placesFrom.2.1 0 = .ok (.lconst 0, 1) := by decide +kernel
theorem eX11_placesFrom_1 : decode MX11_placesFrom.2.1 1 = .ok (.lstore 4, 2) := by decide +kernel
theorem eX11_placesFrom_3 : decode MX11_placesFrom.2.1 3 = .ok (.iload_n 1, 1) := by decide +kernel
theorem eX11_placesFrom_4 : decode MX11_placesFrom.2.1 4 = .ok (.istore 6, 2) := by decide +kernel
theorem eX11_placesFrom_6 : decode MX11_placesFrom.2.1 6 = .ok (.iload 6, 2) := by decide +kernel
theorem eX11_placesFrom_8 : decode MX11_placesFrom.2.1 8 = .ok (.aload_n 0, 1) := by decide +kernel
theorem eX11_placesFrom_9 : decode MX11_placesFrom.2.1 9 = .ok (.getfield 7, 3) := by decide +kernel
theorem eX11_placesFrom_12 : decode MX11_placesFrom.2.1 12 = .ok (.aload_n 0, 1) := by decide +kernel
theorem eX11_placesFrom_13 : decode MX11_placesFrom.2.1 13 = .ok (.getfield 106, 3) := by decide +kernel
theorem eX11_placesFrom_16 : decode MX11_placesFrom.2.1 16 = .ok (.iaload, 1) := by decide +kernel
theorem eX11_placesFrom_17 : decode MX11_placesFrom.2.1 17 = .ok (.if_icmp .ge 78, 3) := by decide +kernel
theorem eX11_placesFrom_20 : decode MX11_placesFrom.2.1 20 = .ok (.iload_n 2, 1) := by decide +kernel
theorem eX11_placesFrom_21 : decode MX11_placesFrom.2.1 21 = .ok (.ifCond .eq 43, 3) := by decide +kernel
theorem eX11_placesFrom_24 : decode MX11_placesFrom.2.1 24 = .ok (.iload_n 2, 1) := by decide +kernel
theorem eX11_placesFrom_25 : decode MX11_placesFrom.2.1 25 = .ok (.iconst 1, 1) := by decide +kernel
theorem eX11_placesFrom_26 : decode MX11_placesFrom.2.1 26 = .ok (.if_icmp .ne 13, 3) := by decide +kernel
theorem eX11_placesFrom_29 : decode MX11_placesFrom.2.1 29 = .ok (.iload 6, 2) := by decide +kernel
theorem eX11_placesFrom_31 : decode MX11_placesFrom.2.1 31 = .ok (.iload_n 3, 1) := by decide +kernel
theorem eX11_placesFrom_32 : decode MX11_placesFrom.2.1 32 = .ok (.ishr, 1) := by decide +kernel
theorem eX11_placesFrom_33 : decode MX11_placesFrom.2.1 33 = .ok (.iconst 1, 1) := by decide +kernel
theorem eX11_placesFrom_34 : decode MX11_placesFrom.2.1 34 = .ok (.iand, 1) := by decide +kernel
theorem eX11_placesFrom_35 : decode MX11_placesFrom.2.1 35 = .ok (.iconst 1, 1) := by decide +kernel
theorem eX11_placesFrom_36 : decode MX11_placesFrom.2.1 36 = .ok (.if_icmp .eq 28, 3) := by decide +kernel
theorem eX11_placesFrom_39 : decode MX11_placesFrom.2.1 39 = .ok (.iload_n 2, 1) := by decide +kernel
theorem eX11_placesFrom_40 : decode MX11_placesFrom.2.1 40 = .ok (.iconst 2, 1) := by decide +kernel
theorem eX11_placesFrom_41 : decode MX11_placesFrom.2.1 41 = .ok (.if_icmp .ne 11, 3) := by decide +kernel
theorem eX11_placesFrom_44 : decode MX11_placesFrom.2.1 44 = .ok (.iload 6, 2) := by decide +kernel
theorem eX11_placesFrom_46 : decode MX11_placesFrom.2.1 46 = .ok (.iconst 2, 1) := by decide +kernel
theorem eX11_placesFrom_47 : decode MX11_placesFrom.2.1 47 = .ok (.irem, 1) := by decide +kernel
theorem eX11_placesFrom_48 : decode MX11_placesFrom.2.1 48 = .ok (.iconst 1, 1) := by decide +kernel
theorem eX11_placesFrom_49 : decode MX11_placesFrom.2.1 49 = .ok (.if_icmp .eq 15, 3) := by decide +kernel
theorem eX11_placesFrom_52 : decode MX11_placesFrom.2.1 52 = .ok (.iload_n 2, 1) := by decide +kernel
theorem eX11_placesFrom_53 : decode MX11_placesFrom.2.1 53 = .ok (.iconst 3, 1) := by decide +kernel
theorem eX11_placesFrom_54 : decode MX11_placesFrom.2.1 54 = .ok (.if_icmp .ne 14, 3) := by decide +kernel
theorem eX11_placesFrom_57 : decode MX11_placesFrom.2.1 57 = .ok (.iload 6, 2) := by decide +kernel
theorem eX11_placesFrom_59 : decode MX11_placesFrom.2.1 59 = .ok (.iconst 2, 1) := by decide +kernel
theorem eX11_placesFrom_60 : decode MX11_placesFrom.2.1 60 = .ok (.irem, 1) := by decide +kernel
theorem eX11_placesFrom_61 : decode MX11_placesFrom.2.1 61 = .ok (.ifCond .ne 7, 3) := by decide +kernel
theorem eX11_placesFrom_64 : decode MX11_placesFrom.2.1 64 = .ok (.iconst 1, 1) := by decide +kernel
theorem eX11_placesFrom_65 : decode MX11_placesFrom.2.1 65 = .ok (.goto 4, 3) := by decide +kernel
theorem eX11_placesFrom_68 : decode MX11_placesFrom.2.1 68 = .ok (.iconst 0, 1) := by decide +kernel
theorem eX11_placesFrom_69 : decode MX11_placesFrom.2.1 69 = .ok (.istore 7, 2) := by decide +kernel
theorem eX11_placesFrom_71 : decode MX11_placesFrom.2.1 71 = .ok (.lload 4, 2) := by decide +kernel
theorem eX11_placesFrom_73 : decode MX11_placesFrom.2.1 73 = .ok (.iload 7, 2) := by decide +kernel
theorem eX11_placesFrom_75 : decode MX11_placesFrom.2.1 75 = .ok (.ifCond .eq 10, 3) := by decide +kernel
theorem eX11_placesFrom_78 : decode MX11_placesFrom.2.1 78 = .ok (.lconst 1, 1) := by decide +kernel
theorem eX11_placesFrom_79 : decode MX11_placesFrom.2.1 79 = .ok (.iload 6, 2) := by decide +kernel
theorem eX11_placesFrom_81 : decode MX11_placesFrom.2.1 81 = .ok (.lshl, 1) := by decide +kernel
theorem eX11_placesFrom_82 : decode MX11_placesFrom.2.1 82 = .ok (.goto 4, 3) := by decide +kernel
theorem eX11_placesFrom_85 : decode MX11_placesFrom.2.1 85 = .ok (.lconst 0, 1) := by decide +kernel
theorem eX11_placesFrom_86 : decode MX11_placesFrom.2.1 86 = .ok (.lor, 1) := by decide +kernel
theorem eX11_placesFrom_87 : decode MX11_placesFrom.2.1 87 = .ok (.lstore 4, 2) := by decide +kernel
theorem eX11_placesFrom_89 : decode MX11_placesFrom.2.1 89 = .ok (.iinc 6 1, 3) := by decide +kernel
theorem eX11_placesFrom_92 : decode MX11_placesFrom.2.1 92 = .ok (.goto (-86), 3) := by decide +kernel
theorem eX11_placesFrom_95 : decode MX11_placesFrom.2.1 95 = .ok (.lload 4, 2) := by decide +kernel
theorem eX11_placesFrom_97 : decode MX11_placesFrom.2.1 97 = .ok (.lreturn, 1) := by decide +kernel
theorem eX11_upAndDown_0 : decode MX11_upAndDown.2.1 0 = .ok (.iconst (-1), 1) := by decide +kernel
theorem eX11_upAndDown_1 : decode MX11_upAndDown.2.1 1 = .ok (.istore_n 2, 1) := by decide +kernel
theorem eX11_upAndDown_2 : decode MX11_upAndDown.2.1 2 = .ok (.iconst 0, 1) := by decide +kernel
theorem eX11_upAndDown_3 : decode MX11_upAndDown.2.1 3 = .ok (.istore_n 3, 1) := by decide +kernel
theorem eX11_upAndDown_4 : decode MX11_upAndDown.2.1 4 = .ok (.iconst 1, 1) := by decide +kernel
theorem eX11_upAndDown_5 : decode MX11_upAndDown.2.1 5 = .ok (.iload_n 3, 1) := by decide +kernel
theorem eX11_upAndDown_6 : decode MX11_upAndDown.2.1 6 = .ok (.iconst 1, 1) := by decide +kernel
theorem eX11_upAndDown_7 : decode MX11_upAndDown.2.1 7 = .ok (.iadd, 1) := by decide +kernel
theorem eX11_upAndDown_8 : decode MX11_upAndDown.2.1 8 = .ok (.ishl, 1) := by decide +kernel
theorem eX11_upAndDown_9 : decode MX11_upAndDown.2.1 9 = .ok (.iload_n 1, 1) := by decide +kernel
theorem eX11_upAndDown_10 : decode MX11_upAndDown.2.1 10 = .ok (.if_icmp .gt 61, 3) := by decide +kernel
theorem eX11_upAndDown_13 : decode MX11_upAndDown.2.1 13 = .ok (.lconst 0, 1) := by decide +kernel
theorem eX11_upAndDown_14 : decode MX11_upAndDown.2.1 14 = .ok (.lstore 4, 2) := by decide +kernel
theorem eX11_upAndDown_16 : decode MX11_upAndDown.2.1 16 = .ok (.iconst 0, 1) := by decide +kernel
theorem eX11_upAndDown_17 : decode MX11_upAndDown.2.1 17 = .ok (.istore 6, 2) := by decide +kernel
theorem eX11_upAndDown_19 : decode MX11_upAndDown.2.1 19 = .ok (.iload 6, 2) := by decide +kernel
theorem eX11_upAndDown_21 : decode MX11_upAndDown.2.1 21 = .ok (.iload_n 1, 1) := by decide +kernel
theorem eX11_upAndDown_22 : decode MX11_upAndDown.2.1 22 = .ok (.if_icmp .ge 35, 3) := by decide +kernel
theorem eX11_upAndDown_25 : decode MX11_upAndDown.2.1 25 = .ok (.lload 4, 2) := by decide +kernel
theorem eX11_upAndDown_27 : decode MX11_upAndDown.2.1 27 = .ok (.iload 6, 2) := by decide +kernel
theorem eX11_upAndDown_29 : decode MX11_upAndDown.2.1 29 = .ok (.iconst 1, 1) := by decide +kernel
theorem eX11_upAndDown_30 : decode MX11_upAndDown.2.1 30 = .ok (.iadd, 1) := by decide +kernel
theorem eX11_upAndDown_31 : decode MX11_upAndDown.2.1 31 = .ok (.iconst 1, 1) := by decide +kernel
theorem eX11_upAndDown_32 : decode MX11_upAndDown.2.1 32 = .ok (.iload_n 3, 1) := by decide +kernel
theorem eX11_upAndDown_33 : decode MX11_upAndDown.2.1 33 = .ok (.iconst 1, 1) := by decide +kernel
theorem eX11_upAndDown_34 : decode MX11_upAndDown.2.1 34 = .ok (.iadd, 1) := by decide +kernel
theorem eX11_upAndDown_35 : decode MX11_upAndDown.2.1 35 = .ok (.ishl, 1) := by decide +kernel
theorem eX11_upAndDown_36 : decode MX11_upAndDown.2.1 36 = .ok (.irem, 1) := by decide +kernel
theorem eX11_upAndDown_37 : decode MX11_upAndDown.2.1 37 = .ok (.ifCond .ne 10, 3) := by decide +kernel
theorem eX11_upAndDown_40 : decode MX11_upAndDown.2.1 40 = .ok (.lconst 1, 1) := by decide +kernel
theorem eX11_upAndDown_41 : decode MX11_upAndDown.2.1 41 = .ok (.iload 6, 2) := by decide +kernel
theorem eX11_upAndDown_43 : decode MX11_upAndDown.2.1 43 = .ok (.lshl, 1) := by decide +kernel
theorem eX11_upAndDown_44 : decode MX11_upAndDown.2.1 44 = .ok (.goto 4, 3) := by decide +kernel
theorem eX11_upAndDown_47 : decode MX11_upAndDown.2.1 47 = .ok (.lconst 0, 1) := by decide +kernel
theorem eX11_upAndDown_48 : decode MX11_upAndDown.2.1 48 = .ok (.lor, 1) := by decide +kernel
theorem eX11_upAndDown_49 : decode MX11_upAndDown.2.1 49 = .ok (.lstore 4, 2) := by decide +kernel
theorem eX11_upAndDown_51 : decode MX11_upAndDown.2.1 51 = .ok (.iinc 6 1, 3) := by decide +kernel
theorem eX11_upAndDown_54 : decode MX11_upAndDown.2.1 54 = .ok (.goto (-35), 3) := by decide +kernel
theorem eX11_upAndDown_57 : decode MX11_upAndDown.2.1 57 = .ok (.aload_n 0, 1) := by decide +kernel
theorem eX11_upAndDown_58 : decode MX11_upAndDown.2.1 58 = .ok (.lload 4, 2) := by decide +kernel
theorem eX11_upAndDown_60 : decode MX11_upAndDown.2.1 60 = .ok (.invokevirtual 162, 3) := by decide +kernel
theorem eX11_upAndDown_63 : decode MX11_upAndDown.2.1 63 = .ok (.iload_n 3, 1) := by decide +kernel
theorem eX11_upAndDown_64 : decode MX11_upAndDown.2.1 64 = .ok (.istore_n 2, 1) := by decide +kernel
theorem eX11_upAndDown_65 : decode MX11_upAndDown.2.1 65 = .ok (.iinc 3 1, 3) := by decide +kernel
theorem eX11_upAndDown_68 : decode MX11_upAndDown.2.1 68 = .ok (.goto (-64), 3) := by decide +kernel
theorem eX11_upAndDown_71 : decode MX11_upAndDown.2.1 71 = .ok (.iload_n 2, 1) := by decide +kernel
theorem eX11_upAndDown_72 : decode MX11_upAndDown.2.1 72 = .ok (.istore_n 3, 1) := by decide +kernel
theorem eX11_upAndDown_73 : decode MX11_upAndDown.2.1 73 = .ok (.iload_n 3, 1) := by decide +kernel
theorem eX11_upAndDown_74 : decode MX11_upAndDown.2.1 74 = .ok (.ifCond .lt 73, 3) := by decide +kernel
theorem eX11_upAndDown_77 : decode MX11_upAndDown.2.1 77 = .ok (.lconst 0, 1) := by decide +kernel
theorem eX11_upAndDown_78 : decode MX11_upAndDown.2.1 78 = .ok (.lstore 4, 2) := by decide +kernel
theorem eX11_upAndDown_80 : decode MX11_upAndDown.2.1 80 = .ok (.iconst 1, 1) := by decide +kernel
theorem eX11_upAndDown_81 : decode MX11_upAndDown.2.1 81 = .ok (.iload_n 3, 1) := by decide +kernel
theorem eX11_upAndDown_82 : decode MX11_upAndDown.2.1 82 = .ok (.iconst 1, 1) := by decide +kernel
theorem eX11_upAndDown_83 : decode MX11_upAndDown.2.1 83 = .ok (.iadd, 1) := by decide +kernel
theorem eX11_upAndDown_84 : decode MX11_upAndDown.2.1 84 = .ok (.ishl, 1) := by decide +kernel
theorem eX11_upAndDown_85 : decode MX11_upAndDown.2.1 85 = .ok (.istore 6, 2) := by decide +kernel
theorem eX11_upAndDown_87 : decode MX11_upAndDown.2.1 87 = .ok (.iload 6, 2) := by decide +kernel
theorem eX11_upAndDown_89 : decode MX11_upAndDown.2.1 89 = .ok (.iload_n 1, 1) := by decide +kernel
theorem eX11_upAndDown_90 : decode MX11_upAndDown.2.1 90 = .ok (.if_icmp .ge 45, 3) := by decide +kernel
theorem eX11_upAndDown_93 : decode MX11_upAndDown.2.1 93 = .ok (.lload 4, 2) := by decide +kernel
theorem eX11_upAndDown_95 : decode MX11_upAndDown.2.1 95 = .ok (.iload 6, 2) := by decide +kernel
theorem eX11_upAndDown_97 : decode MX11_upAndDown.2.1 97 = .ok (.iconst 1, 1) := by decide +kernel
theorem eX11_upAndDown_98 : decode MX11_upAndDown.2.1 98 = .ok (.iadd, 1) := by decide +kernel
theorem eX11_upAndDown_99 : decode MX11_upAndDown.2.1 99 = .ok (.iconst 1, 1) := by decide +kernel
theorem eX11_upAndDown_100 : decode MX11_upAndDown.2.1 100 = .ok (.iload_n 3, 1) := by decide +kernel
theorem eX11_upAndDown_101 : decode MX11_upAndDown.2.1 101 = .ok (.ishl, 1) := by decide +kernel
theorem eX11_upAndDown_102 : decode MX11_upAndDown.2.1 102 = .ok (.irem, 1) := by decide +kernel
theorem eX11_upAndDown_103 : decode MX11_upAndDown.2.1 103 = .ok (.ifCond .ne 22, 3) := by decide +kernel
theorem eX11_upAndDown_106 : decode MX11_upAndDown.2.1 106 = .ok (.iload 6, 2) := by decide +kernel
theorem eX11_upAndDown_108 : decode MX11_upAndDown.2.1 108 = .ok (.iconst 1, 1) := by decide +kernel
theorem eX11_upAndDown_109 : decode MX11_upAndDown.2.1 109 = .ok (.iadd, 1) := by decide +kernel
theorem eX11_upAndDown_110 : decode MX11_upAndDown.2.1 110 = .ok (.iload_n 3, 1) := by decide +kernel
theorem eX11_upAndDown_111 : decode MX11_upAndDown.2.1 111 = .ok (.ishr, 1) := by decide +kernel
theorem eX11_upAndDown_112 : decode MX11_upAndDown.2.1 112 = .ok (.iconst 2, 1) := by decide +kernel
theorem eX11_upAndDown_113 : decode MX11_upAndDown.2.1 113 = .ok (.irem, 1) := by decide +kernel
theorem eX11_upAndDown_114 : decode MX11_upAndDown.2.1 114 = .ok (.iconst 1, 1) := by decide +kernel
theorem eX11_upAndDown_115 : decode MX11_upAndDown.2.1 115 = .ok (.if_icmp .ne 10, 3) := by decide +kernel
theorem eX11_upAndDown_118 : decode MX11_upAndDown.2.1 118 = .ok (.lconst 1, 1) := by decide +kernel
theorem eX11_upAndDown_119 : decode MX11_upAndDown.2.1 119 = .ok (.iload 6, 2) := by decide +kernel
theorem eX11_upAndDown_121 : decode MX11_upAndDown.2.1 121 = .ok (.lshl, 1) := by decide +kernel
theorem eX11_upAndDown_122 : decode MX11_upAndDown.2.1 122 = .ok (.goto 4, 3) := by decide +kernel
theorem eX11_upAndDown_125 : decode MX11_upAndDown.2.1 125 = .ok (.lconst 0, 1) := by decide +kernel
theorem eX11_upAndDown_126 : decode MX11_upAndDown.2.1 126 = .ok (.lor, 1) := by decide +kernel
theorem eX11_upAndDown_127 : decode MX11_upAndDown.2.1 127 = .ok (.lstore 4, 2) := by decide +kernel
theorem eX11_upAndDown_129 : decode MX11_upAndDown.2.1 129 = .ok (.iinc 6 1, 3) := by decide +kernel
theorem eX11_upAndDown_132 : decode MX11_upAndDown.2.1 132 = .ok (.goto (-45), 3) := by decide +kernel
theorem eX11_upAndDown_135 : decode MX11_upAndDown.2.1 135 = .ok (.aload_n 0, 1) := by decide +kernel
theorem eX11_upAndDown_136 : decode MX11_upAndDown.2.1 136 = .ok (.lload 4, 2) := by decide +kernel
theorem eX11_upAndDown_138 : decode MX11_upAndDown.2.1 138 = .ok (.invokevirtual 162, 3) := by decide +kernel
theorem eX11_upAndDown_141 : decode MX11_upAndDown.2.1 141 = .ok (.iinc 3 (-1), 3) := by decide +kernel
theorem eX11_upAndDown_144 : decode MX11_upAndDown.2.1 144 = .ok (.goto (-71), 3) := by decide +kernel
theorem eX11_upAndDown_147 : decode MX11_upAndDown.2.1 147 = .ok (.return_, 1) := by decide +kernel
theorem eX11_net_0 : decode MX11_net.2.1 0 = .ok (.iload_n 1, 1) := by decide +kernel
theorem eX11_net_1 : decode MX11_net.2.1 1 = .ok (.i2l, 1) := by decide +kernel
theorem eX11_net_2 : decode MX11_net.2.1 2 = .ok (.ldc2_w 155, 3) := by decide +kernel
theorem eX11_net_5 : decode MX11_net.2.1 5 = .ok (.ldc2_w 157, 3) := by decide +kernel
theorem eX11_net_8 : decode MX11_net.2.1 8 = .ok (.invokestatic 109, 3) := by decide +kernel
theorem eX11_net_11 : decode MX11_net.2.1 11 = .ok (.ifCond .eq 15, 3) := by decide +kernel
theorem eX11_net_14 : decode MX11_net.2.1 14 = .ok (.iload_n 2, 1) := by decide +kernel
theorem eX11_net_15 : decode MX11_net.2.1 15 = .ok (.i2l, 1) := by decide +kernel
theorem eX11_net_16 : decode MX11_net.2.1 16 = .ok (.lconst 0, 1) := by decide +kernel
theorem eX11_net_17 : decode MX11_net.2.1 17 = .ok (.ldc2_w 165, 3) := by decide +kernel
theorem eX11_net_20 : decode MX11_net.2.1 20 = .ok (.invokestatic 109, 3) := by decide +kernel
theorem eX11_net_23 : decode MX11_net.2.1 23 = .ok (.ifCond .ne 5, 3) := by decide +kernel
theorem eX11_net_26 : decode MX11_net.2.1 26 = .ok (.iconst (-1), 1) := by decide +kernel
theorem eX11_net_27 : decode MX11_net.2.1 27 = .ok (.ireturn, 1) := by decide +kernel
theorem eX11_net_28 : decode MX11_net.2.1 28 = .ok (.aload_n 0, 1) := by decide +kernel
theorem eX11_net_29 : decode MX11_net.2.1 29 = .ok (.getfield 106, 3) := by decide +kernel
theorem eX11_net_32 : decode MX11_net.2.1 32 = .ok (.bipush 8, 2) := by decide +kernel
theorem eX11_net_34 : decode MX11_net.2.1 34 = .ok (.if_icmp .ne 6, 3) := by decide +kernel
theorem eX11_net_37 : decode MX11_net.2.1 37 = .ok (.bipush (-3), 2) := by decide +kernel
theorem eX11_net_39 : decode MX11_net.2.1 39 = .ok (.ireturn, 1) := by decide +kernel
theorem eX11_net_40 : decode MX11_net.2.1 40 = .ok (.aload_n 0, 1) := by decide +kernel
theorem eX11_net_41 : decode MX11_net.2.1 41 = .ok (.getfield 7, 3) := by decide +kernel
theorem eX11_net_44 : decode MX11_net.2.1 44 = .ok (.aload_n 0, 1) := by decide +kernel
theorem eX11_net_45 : decode MX11_net.2.1 45 = .ok (.getfield 106, 3) := by decide +kernel
theorem eX11_net_48 : decode MX11_net.2.1 48 = .ok (.iload_n 1, 1) := by decide +kernel
theorem eX11_net_49 : decode MX11_net.2.1 49 = .ok (.iastore, 1) := by decide +kernel
theorem eX11_net_50 : decode MX11_net.2.1 50 = .ok (.aload_n 0, 1) := by decide +kernel
theorem eX11_net_51 : decode MX11_net.2.1 51 = .ok (.getfield 13, 3) := by decide +kernel
theorem eX11_net_54 : decode MX11_net.2.1 54 = .ok (.aload_n 0, 1) := by decide +kernel
theorem eX11_net_55 : decode MX11_net.2.1 55 = .ok (.getfield 106, 3) := by decide +kernel
theorem eX11_net_58 : decode MX11_net.2.1 58 = .ok (.iconst 0, 1) := by decide +kernel
theorem eX11_net_59 : decode MX11_net.2.1 59 = .ok (.iastore, 1) := by decide +kernel
theorem eX11_net_60 : decode MX11_net.2.1 60 = .ok (.aload_n 0, 1) := by decide +kernel
theorem eX11_net_61 : decode MX11_net.2.1 61 = .ok (.invokevirtual 91, 3) := by decide +kernel
theorem eX11_net_64 : decode MX11_net.2.1 64 = .ok (.iload_n 2, 1) := by decide +kernel
theorem eX11_net_65 : decode MX11_net.2.1 65 = .ok (.ifCond .ne 30, 3) := by decide +kernel
theorem eX11_net_68 : decode MX11_net.2.1 68 = .ok (.iconst 0, 1) := by decide +kernel
theorem eX11_net_69 : decode MX11_net.2.1 69 = .ok (.istore_n 3, 1) := by decide +kernel
theorem eX11_net_70 : decode MX11_net.2.1 70 = .ok (.iload_n 3, 1) := by decide +kernel
theorem eX11_net_71 : decode MX11_net.2.1 71 = .ok (.iconst 1, 1) := by decide +kernel
theorem eX11_net_72 : decode MX11_net.2.1 72 = .ok (.iadd, 1) := by decide +kernel
theorem eX11_net_73 : decode MX11_net.2.1 73 = .ok (.iload_n 1, 1) := by decide +kernel
theorem eX11_net_74 : decode MX11_net.2.1 74 = .ok (.if_icmp .ge 18, 3) := by decide +kernel
theorem eX11_net_77 : decode MX11_net.2.1 77 = .ok (.aload_n 0, 1) := by decide +kernel
theorem eX11_net_78 : decode MX11_net.2.1 78 = .ok (.lconst 1, 1) := by decide +kernel
theorem eX11_net_79 : decode MX11_net.2.1 79 = .ok (.iload_n 3, 1) := by decide +kernel
theorem eX11_net_80 : decode MX11_net.2.1 80 = .ok (.iconst 1, 1) := by decide +kernel
theorem eX11_net_81 : decode MX11_net.2.1 81 = .ok (.iadd, 1) := by decide +kernel
theorem eX11_net_82 : decode MX11_net.2.1 82 = .ok (.lshl, 1) := by decide +kernel
theorem eX11_net_83 : decode MX11_net.2.1 83 = .ok (.invokevirtual 162, 3) := by decide +kernel
theorem eX11_net_86 : decode MX11_net.2.1 86 = .ok (.iinc 3 1, 3) := by decide +kernel
theorem eX11_net_89 : decode MX11_net.2.1 89 = .ok (.goto (-19), 3) := by decide +kernel
theorem eX11_net_92 : decode MX11_net.2.1 92 = .ok (.goto 109, 3) := by decide +kernel
theorem eX11_net_95 : decode MX11_net.2.1 95 = .ok (.iload_n 2, 1) := by decide +kernel
theorem eX11_net_96 : decode MX11_net.2.1 96 = .ok (.iconst 3, 1) := by decide +kernel
theorem eX11_net_97 : decode MX11_net.2.1 97 = .ok (.if_icmp .ne 11, 3) := by decide +kernel
theorem eX11_net_100 : decode MX11_net.2.1 100 = .ok (.aload_n 0, 1) := by decide +kernel
theorem eX11_net_101 : decode MX11_net.2.1 101 = .ok (.iload_n 1, 1) := by decide +kernel
theorem eX11_net_102 : decode MX11_net.2.1 102 = .ok (.invokevirtual 167, 3) := by decide +kernel
theorem eX11_net_105 : decode MX11_net.2.1 105 = .ok (.goto 96, 3) := by decide +kernel
theorem eX11_net_108 : decode MX11_net.2.1 108 = .ok (.iload_n 2, 1) := by decide +kernel
theorem eX11_net_109 : decode MX11_net.2.1 109 = .ok (.iconst 4, 1) := by decide +kernel
theorem eX11_net_110 : decode MX11_net.2.1 110 = .ok (.if_icmp .ne 14, 3) := by decide +kernel
theorem eX11_net_113 : decode MX11_net.2.1 113 = .ok (.aload_n 0, 1) := by decide +kernel
theorem eX11_net_114 : decode MX11_net.2.1 114 = .ok (.aload_n 0, 1) := by decide +kernel
theorem eX11_net_115 : decode MX11_net.2.1 115 = .ok (.iconst 0, 1) := by decide +kernel
theorem eX11_net_116 : decode MX11_net.2.1 116 = .ok (.iconst 2, 1) := by decide +kernel
theorem eX11_net_117 : decode MX11_net.2.1 117 = .ok (.iconst 0, 1) := by decide +kernel
theorem eX11_net_118 : decode MX11_net.2.1 118 = .ok (.invokevirtual 171, 3) := by decide +kernel
theorem eX11_net_121 : decode MX11_net.2.1 121 = .ok (.invokevirtual 162, 3) := by decide +kernel
theorem eX11_net_124 : decode MX11_net.2.1 124 = .ok (.iload_n 2, 1) := by decide +kernel
theorem eX11_net_125 : decode MX11_net.2.1 125 = .ok (.iconst 4, 1) := by decide +kernel
theorem eX11_net_126 : decode MX11_net.2.1 126 = .ok (.if_icmp .ne 7, 3) := by decide +kernel
theorem eX11_net_129 : decode MX11_net.2.1 129 = .ok (.iconst 1, 1) := by decide +kernel
theorem eX11_net_130 : decode MX11_net.2.1 130 = .ok (.goto 4, 3) := by decide +kernel
theorem eX11_net_133 : decode MX11_net.2.1 133 = .ok (.iconst 0, 1) := by decide +kernel
theorem eX11_net_134 : decode MX11_net.2.1 134 = .ok (.istore_n 3, 1) := by decide +kernel
theorem eX11_net_135 : decode MX11_net.2.1 135 = .ok (.iconst 1, 1) := by decide +kernel
theorem eX11_net_136 : decode MX11_net.2.1 136 = .ok (.iload_n 3, 1) := by decide +kernel
theorem eX11_net_137 : decode MX11_net.2.1 137 = .ok (.ishl, 1) := by decide +kernel
theorem eX11_net_138 : decode MX11_net.2.1 138 = .ok (.iload_n 1, 1) := by decide +kernel
theorem eX11_net_139 : decode MX11_net.2.1 139 = .ok (.if_icmp .ge 46, 3) := by decide +kernel
theorem eX11_net_142 : decode MX11_net.2.1 142 = .ok (.aload_n 0, 1) := by decide +kernel
theorem eX11_net_143 : decode MX11_net.2.1 143 = .ok (.iload_n 2, 1) := by decide +kernel
theorem eX11_net_144 : decode MX11_net.2.1 144 = .ok (.iconst 1, 1) := by decide +kernel
theorem eX11_net_145 : decode MX11_net.2.1 145 = .ok (.if_icmp .ne 13, 3) := by decide +kernel
theorem eX11_net_148 : decode MX11_net.2.1 148 = .ok (.aload_n 0, 1) := by decide +kernel
theorem eX11_net_149 : decode MX11_net.2.1 149 = .ok (.iconst 0, 1) := by decide +kernel
theorem eX11_net_150 : decode MX11_net.2.1 150 = .ok (.iconst 1, 1) := by decide +kernel
theorem eX11_net_151 : decode MX11_net.2.1 151 = .ok (.iload_n 3, 1) := by decide +kernel
theorem eX11_net_152 : decode MX11_net.2.1 152 = .ok (.invokevirtual 171, 3) := by decide +kernel
theorem eX11_net_155 : decode MX11_net.2.1 155 = .ok (.goto 21, 3) := by decide +kernel
theorem eX11_net_158 : decode MX11_net.2.1 158 = .ok (.aload_n 0, 1) := by decide +kernel
theorem eX11_net_159 : decode MX11_net.2.1 159 = .ok (.iconst 1, 1) := by decide +kernel
theorem eX11_net_160 : decode MX11_net.2.1 160 = .ok (.iload_n 3, 1) := by decide +kernel
theorem eX11_net_161 : decode MX11_net.2.1 161 = .ok (.ishl, 1) := by decide +kernel
theorem eX11_net_162 : decode MX11_net.2.1 162 = .ok (.iload_n 2, 1) := by decide +kernel
theorem eX11_net_163 : decode MX11_net.2.1 163 = .ok (.iconst 2, 1) := by decide +kernel
theorem eX11_net_164 : decode MX11_net.2.1 164 = .ok (.if_icmp .ne 7, 3) := by decide +kernel
theorem eX11_net_167 : decode MX11_net.2.1 167 = .ok (.iconst 0, 1) := by decide +kernel
theorem eX11_net_168 : decode MX11_net.2.1 168 = .ok (.goto 4, 3) := by decide +kernel
theorem eX11_net_171 : decode MX11_net.2.1 171 = .ok (.iconst 2, 1) := by decide +kernel
theorem eX11_net_172 : decode MX11_net.2.1 172 = .ok (.iload_n 3, 1) := by decide +kernel
theorem eX11_net_173 : decode MX11_net.2.1 173 = .ok (.invokevirtual 171, 3) := by decide +kernel
theorem eX11_net_176 : decode MX11_net.2.1 176 = .ok (.invokevirtual 162, 3) := by decide +kernel
theorem eX11_net_179 : decode MX11_net.2.1 179 = .ok (.iinc 3 1, 3) := by decide +kernel
theorem eX11_net_182 : decode MX11_net.2.1 182 = .ok (.goto (-47), 3) := by decide +kernel
theorem eX11_net_185 : decode MX11_net.2.1 185 = .ok (.iload_n 2, 1) := by decide +kernel
theorem eX11_net_186 : decode MX11_net.2.1 186 = .ok (.iconst 4, 1) := by decide +kernel
theorem eX11_net_187 : decode MX11_net.2.1 187 = .ok (.if_icmp .ne 14, 3) := by decide +kernel
theorem eX11_net_190 : decode MX11_net.2.1 190 = .ok (.aload_n 0, 1) := by decide +kernel
theorem eX11_net_191 : decode MX11_net.2.1 191 = .ok (.aload_n 0, 1) := by decide +kernel
theorem eX11_net_192 : decode MX11_net.2.1 192 = .ok (.iconst 2, 1) := by decide +kernel
theorem eX11_net_193 : decode MX11_net.2.1 193 = .ok (.iconst 3, 1) := by decide +kernel
theorem eX11_net_194 : decode MX11_net.2.1 194 = .ok (.iconst 0, 1) := by decide +kernel
theorem eX11_net_195 : decode MX11_net.2.1 195 = .ok (.invokevirtual 171, 3) := by decide +kernel
theorem eX11_net_198 : decode MX11_net.2.1 198 = .ok (.invokevirtual 162, 3) := by decide +kernel
theorem eX11_net_201 : decode MX11_net.2.1 201 = .ok (.aload_n 0, 1) := by decide +kernel
theorem eX11_net_202 : decode MX11_net.2.1 202 = .ok (.dup, 1) := by decide +kernel
theorem eX11_net_203 : decode MX11_net.2.1 203 = .ok (.getfield 106, 3) := by decide +kernel
theorem eX11_net_206 : decode MX11_net.2.1 206 = .ok (.iconst 1, 1) := by decide +kernel
theorem eX11_net_207 : decode MX11_net.2.1 207 = .ok (.iadd, 1) := by decide +kernel
theorem eX11_net_208 : decode MX11_net.2.1 208 = .ok (.putfield 106, 3) := by decide +kernel
theorem eX11_net_211 : decode MX11_net.2.1 211 = .ok (.aload_n 0, 1) := by decide +kernel
theorem eX11_net_212 : decode MX11_net.2.1 212 = .ok (.getfield 106, 3) := by decide +kernel
theorem eX11_net_215 : decode MX11_net.2.1 215 = .ok (.iconst 1, 1) := by decide +kernel
theorem eX11_net_216 : decode MX11_net.2.1 216 = .ok (.isub, 1) := by decide +kernel
theorem eX11_net_217 : decode MX11_net.2.1 217 = .ok (.ireturn, 1) := by decide +kernel
theorem eX11_drop_0 : decode MX11_drop.2.1 0 = .ok (.aload_n 0, 1) := by decide +kernel
theorem eX11_drop_1 : decode MX11_drop.2.1 1 = .ok (.getfield 106, 3) := by decide +kernel
theorem eX11_drop_4 : decode MX11_drop.2.1 4 = .ok (.ifCond .ne 6, 3) := by decide +kernel
theorem eX11_drop_7 : decode MX11_drop.2.1 7 = .ok (.bipush (-4), 2) := by decide +kernel
theorem eX11_drop_9 : decode MX11_drop.2.1 9 = .ok (.ireturn, 1) := by decide +kernel
theorem eX11_drop_10 : decode MX11_drop.2.1 10 = .ok (.aload_n 0, 1) := by decide +kernel
theorem eX11_drop_11 : decode MX11_drop.2.1 11 = .ok (.dup, 1) := by decide +kernel
theorem eX11_drop_12 : decode MX11_drop.2.1 12 = .ok (.getfield 106, 3) := by decide +kernel
theorem eX11_drop_15 : decode MX11_drop.2.1 15 = .ok (.iconst 1, 1) := by decide +kernel
theorem eX11_drop_16 : decode MX11_drop.2.1 16 = .ok (.isub, 1) := by decide +kernel
theorem eX11_drop_17 : decode MX11_drop.2.1 17 = .ok (.putfield 106, 3) := by decide +kernel
theorem eX11_drop_20 : decode MX11_drop.2.1 20 = .ok (.aload_n 0, 1) := by decide +kernel
theorem eX11_drop_21 : decode MX11_drop.2.1 21 = .ok (.getfield 106, 3) := by decide +kernel
theorem eX11_drop_24 : decode MX11_drop.2.1 24 = .ok (.ireturn, 1) := by decide +kernel
theorem eX11_findTakes_0 : decode MX11_findTakes.2.1 0 = .ok (.aload_n 0, 1) := by decide +kernel
theorem eX11_findTakes_1 : decode MX11_findTakes.2.1 1 = .ok (.iload_n 1, 1) := by decide +kernel
theorem eX11_findTakes_2 : decode MX11_findTakes.2.1 2 = .ok (.iload_n 2, 1) := by decide +kernel
theorem eX11_findTakes_3 : decode MX11_findTakes.2.1 3 = .ok (.invokevirtual 102, 3) := by decide +kernel
theorem eX11_findTakes_6 : decode MX11_findTakes.2.1 6 = .ok (.iconst 0, 1) := by decide +kernel
theorem eX11_findTakes_7 : decode MX11_findTakes.2.1 7 = .ok (.istore_n 3, 1) := by decide +kernel
theorem eX11_findTakes_8 : decode MX11_findTakes.2.1 8 = .ok (.iload_n 3, 1) := by decide +kernel
theorem eX11_findTakes_9 : decode MX11_findTakes.2.1 9 = .ok (.bipush 32, 2) := by decide +kernel
theorem eX11_findTakes_11 : decode MX11_findTakes.2.1 11 = .ok (.if_icmp .ge 43, 3) := by decide +kernel
theorem eX11_findTakes_14 : decode MX11_findTakes.2.1 14 = .ok (.aload_n 0, 1) := by decide +kernel
theorem eX11_findTakes_15 : decode MX11_findTakes.2.1 15 = .ok (.getfield 39, 3) := by decide +kernel
theorem eX11_findTakes_18 : decode MX11_findTakes.2.1 18 = .ok (.iload_n 3, 1) := by decide +kernel
theorem eX11_findTakes_19 : decode MX11_findTakes.2.1 19 = .ok (.aload_n 0, 1) := by decide +kernel
theorem eX11_findTakes_20 : decode MX11_findTakes.2.1 20 = .ok (.iload_n 1, 1) := by decide +kernel
theorem eX11_findTakes_21 : decode MX11_findTakes.2.1 21 = .ok (.iload_n 2, 1) := by decide +kernel
theorem eX11_findTakes_22 : decode MX11_findTakes.2.1 22 = .ok (.invokevirtual 94, 3) := by decide +kernel
theorem eX11_findTakes_25 : decode MX11_findTakes.2.1 25 = .ok (.iload_n 3, 1) := by decide +kernel
theorem eX11_findTakes_26 : decode MX11_findTakes.2.1 26 = .ok (.lshr, 1) := by decide +kernel
theorem eX11_findTakes_27 : decode MX11_findTakes.2.1 27 = .ok (.lconst 1, 1) := by decide +kernel
theorem eX11_findTakes_28 : decode MX11_findTakes.2.1 28 = .ok (.land, 1) := by decide +kernel
theorem eX11_findTakes_29 : decode MX11_findTakes.2.1 29 = .ok (.lconst 1, 1) := by decide +kernel
theorem eX11_findTakes_30 : decode MX11_findTakes.2.1 30 = .ok (.lcmp, 1) := by decide +kernel
theorem eX11_findTakes_31 : decode MX11_findTakes.2.1 31 = .ok (.ifCond .ne 14, 3) := by decide +kernel
theorem eX11_findTakes_34 : decode MX11_findTakes.2.1 34 = .ok (.aload_n 0, 1) := by decide +kernel
theorem eX11_findTakes_35 : decode MX11_findTakes.2.1 35 = .ok (.getfield 30, 3) := by decide +kernel
theorem eX11_findTakes_38 : decode MX11_findTakes.2.1 38 = .ok (.iload_n 3, 1) := by decide +kernel
theorem eX11_findTakes_39 : decode MX11_findTakes.2.1 39 = .ok (.iaload, 1) := by decide +kernel
theorem eX11_findTakes_40 : decode MX11_findTakes.2.1 40 = .ok (.iconst 1, 1) := by decide +kernel
theorem eX11_findTakes_41 : decode MX11_findTakes.2.1 41 = .ok (.isub, 1) := by decide +kernel
theorem eX11_findTakes_42 : decode MX11_findTakes.2.1 42 = .ok (.goto 5, 3) := by decide +kernel
theorem eX11_findTakes_45 : decode MX11_findTakes.2.1 45 = .ok (.bipush (-4), 2) := by decide +kernel
theorem eX11_findTakes_47 : decode MX11_findTakes.2.1 47 = .ok (.iastore, 1) := by decide +kernel
theorem eX11_findTakes_48 : decode MX11_findTakes.2.1 48 = .ok (.iinc 3 1, 3) := by decide +kernel
theorem eX11_findTakes_51 : decode MX11_findTakes.2.1 51 = .ok (.goto (-43), 3) := by decide +kernel
theorem eX11_findTakes_54 : decode MX11_findTakes.2.1 54 = .ok (.return_, 1) := by decide +kernel
theorem eX11_loadOf_0 : decode MX11_loadOf.2.1 0 = .ok (.iconst 0, 1) := by decide +kernel
theorem eX11_loadOf_1 : decode MX11_loadOf.2.1 1 = .ok (.istore_n 2, 1) := by decide +kernel
end
