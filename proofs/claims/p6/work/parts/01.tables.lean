section
-- part 01.tables.lean.txt
-- ===== PART A: goes FIRST, ahead of the names: the tables' words, and 'selects' of the private methods out of them =====
/-- a private method of a class that the tables say can be made, by its rows of tables_1 -/
def lw_okq (q : MethodName × Nat) : Prop := (q.1.cls ≠ "java/lang/invoke/MethodHandle" ∧ q.1.cls ≠ "java/lang/invoke/VarHandle") ∧ Cond.instantiable q.1.cls q.2 ∈ tables_1 ∧ Cond.privateMethod q.1 ∈ tables_1 ∧ Cond.instanceMethod q.1 ∈ tables_1
/-! ===== quicker than by the whole list: words by sublists; the classes' names once ===== -/
set_option maxRecDepth 100000 in
theorem lw_m1 {w : Jvm.Cond} (h : w ∈ tables_1_1) : w ∈ tables_1 := List.mem_append_left _ h
set_option maxRecDepth 100000 in
theorem lw_m2 {w : Jvm.Cond} (h : w ∈ tables_1_2) : w ∈ tables_1 := List.mem_append_right _ (List.mem_append_left _ h)
set_option maxRecDepth 100000 in
theorem lw_m3 {w : Jvm.Cond} (h : w ∈ tables_1_3) : w ∈ tables_1 := List.mem_append_right _ (List.mem_append_right _ (List.mem_append_left _ h))
set_option maxRecDepth 100000 in
theorem lw_m4 {w : Jvm.Cond} (h : w ∈ tables_1_4) : w ∈ tables_1 := List.mem_append_right _ (List.mem_append_right _ (List.mem_append_right _ (List.mem_append_left _ h)))
set_option maxRecDepth 100000 in
theorem lw_m5 {w : Jvm.Cond} (h : w ∈ tables_1_5) : w ∈ tables_1 := List.mem_append_right _ (List.mem_append_right _ (List.mem_append_right _ (List.mem_append_right _ (List.mem_append_left _ h))))
set_option maxRecDepth 100000 in
theorem lw_m6 {w : Jvm.Cond} (h : w ∈ tables_1_6) : w ∈ tables_1 := List.mem_append_right _ (List.mem_append_right _ (List.mem_append_right _ (List.mem_append_right _ (List.mem_append_right _ (List.mem_append_left _ h)))))
set_option maxRecDepth 100000 in
theorem lw_m7 {w : Jvm.Cond} (h : w ∈ tables_1_7) : w ∈ tables_1 := List.mem_append_right _ (List.mem_append_right _ (List.mem_append_right _ (List.mem_append_right _ (List.mem_append_right _ (List.mem_append_right _ (List.mem_append_left _ h))))))
set_option maxRecDepth 100000 in
theorem lw_m8 {w : Jvm.Cond} (h : w ∈ tables_1_8) : w ∈ tables_1 := List.mem_append_right _ (List.mem_append_right _ (List.mem_append_right _ (List.mem_append_right _ (List.mem_append_right _ (List.mem_append_right _ (List.mem_append_right _ (List.mem_append_left _ h)))))))
set_option maxRecDepth 100000 in
theorem lw_m9 {w : Jvm.Cond} (h : w ∈ tables_1_9) : w ∈ tables_1 := List.mem_append_right _ (List.mem_append_right _ (List.mem_append_right _ (List.mem_append_right _ (List.mem_append_right _ (List.mem_append_right _ (List.mem_append_right _ (List.mem_append_right _ (List.mem_append_left _ h))))))))
set_option maxRecDepth 100000 in
theorem lw_m10 {w : Jvm.Cond} (h : w ∈ tables_1_10) : w ∈ tables_1 := List.mem_append_right _ (List.mem_append_right _ (List.mem_append_right _ (List.mem_append_right _ (List.mem_append_right _ (List.mem_append_right _ (List.mem_append_right _ (List.mem_append_right _ (List.mem_append_right _ (List.mem_append_left _ h)))))))))
set_option maxRecDepth 100000 in
theorem lw_m11 {w : Jvm.Cond} (h : w ∈ tables_1_11) : w ∈ tables_1 := List.mem_append_right _ (List.mem_append_right _ (List.mem_append_right _ (List.mem_append_right _ (List.mem_append_right _ (List.mem_append_right _ (List.mem_append_right _ (List.mem_append_right _ (List.mem_append_right _ (List.mem_append_right _ (h))))))))))
theorem lw_ne0 : "ToldNet$Tape" ≠ "java/lang/invoke/MethodHandle" ∧ "ToldNet$Tape" ≠ "java/lang/invoke/VarHandle" := ⟨by decide +kernel, by decide +kernel⟩
theorem lw_ne1 : "ToldNet$Text" ≠ "java/lang/invoke/MethodHandle" ∧ "ToldNet$Text" ≠ "java/lang/invoke/VarHandle" := ⟨by decide +kernel, by decide +kernel⟩
theorem lw_ne2 : "ToldNet$Rule" ≠ "java/lang/invoke/MethodHandle" ∧ "ToldNet$Rule" ≠ "java/lang/invoke/VarHandle" := ⟨by decide +kernel, by decide +kernel⟩
theorem lw_ne3 : "ToldNet$Search" ≠ "java/lang/invoke/MethodHandle" ∧ "ToldNet$Search" ≠ "java/lang/invoke/VarHandle" := ⟨by decide +kernel, by decide +kernel⟩
theorem lw_ne4 : "ToldNet$Parting" ≠ "java/lang/invoke/MethodHandle" ∧ "ToldNet$Parting" ≠ "java/lang/invoke/VarHandle" := ⟨by decide +kernel, by decide +kernel⟩
theorem lw_ne5 : "ToldNet" ≠ "java/lang/invoke/MethodHandle" ∧ "ToldNet" ≠ "java/lang/invoke/VarHandle" := ⟨by decide +kernel, by decide +kernel⟩
theorem lw_ne6 : "ToldNet$Sorts" ≠ "java/lang/invoke/MethodHandle" ∧ "ToldNet$Sorts" ≠ "java/lang/invoke/VarHandle" := ⟨by decide +kernel, by decide +kernel⟩
theorem lw_ne7 : "ToldNet$Reader" ≠ "java/lang/invoke/MethodHandle" ∧ "ToldNet$Reader" ≠ "java/lang/invoke/VarHandle" := ⟨by decide +kernel, by decide +kernel⟩
theorem lw_ne8 : "ToldNet$Telling" ≠ "java/lang/invoke/MethodHandle" ∧ "ToldNet$Telling" ≠ "java/lang/invoke/VarHandle" := ⟨by decide +kernel, by decide +kernel⟩
theorem lw_ne9 : "ToldNet$Order" ≠ "java/lang/invoke/MethodHandle" ∧ "ToldNet$Order" ≠ "java/lang/invoke/VarHandle" := ⟨by decide +kernel, by decide +kernel⟩
theorem lw_ne10 : "ToldNet$Net" ≠ "java/lang/invoke/MethodHandle" ∧ "ToldNet$Net" ≠ "java/lang/invoke/VarHandle" := ⟨by decide +kernel, by decide +kernel⟩
theorem lw_ne11 : "java/lang/Throwable" ≠ "java/lang/invoke/MethodHandle" ∧ "java/lang/Throwable" ≠ "java/lang/invoke/VarHandle" := ⟨by decide +kernel, by decide +kernel⟩
theorem lw_ne12 : "ToldNetModel" ≠ "java/lang/invoke/MethodHandle" ∧ "ToldNetModel" ≠ "java/lang/invoke/VarHandle" := ⟨by decide +kernel, by decide +kernel⟩
set_option maxRecDepth 4096 in
theorem lw_p0 : lw_okq (⟨"ToldNet$Tape", "skipBlanks", "(I)I"⟩, 9) := ⟨lw_ne0, lw_m1 (List.mem_of_getElem? (i := 100) rfl), lw_m3 (List.mem_of_getElem? (i := 202) rfl), lw_m3 (List.mem_of_getElem? (i := 203) rfl)⟩
set_option maxRecDepth 4096 in
theorem lw_p1 : lw_okq (⟨"ToldNet$Tape", "sortOf", "(I)I"⟩, 9) := ⟨lw_ne0, lw_m1 (List.mem_of_getElem? (i := 100) rfl), lw_m3 (List.mem_of_getElem? (i := 206) rfl), lw_m3 (List.mem_of_getElem? (i := 207) rfl)⟩
set_option maxRecDepth 4096 in
theorem lw_p2 : lw_okq (⟨"ToldNet$Tape", "endOf", "(I)I"⟩, 9) := ⟨lw_ne0, lw_m1 (List.mem_of_getElem? (i := 100) rfl), lw_m3 (List.mem_of_getElem? (i := 210) rfl), lw_m3 (List.mem_of_getElem? (i := 211) rfl)⟩
set_option maxRecDepth 4096 in
theorem lw_p3 : lw_okq (⟨"ToldNet$Tape", "valueOf", "(II)J"⟩, 9) := ⟨lw_ne0, lw_m1 (List.mem_of_getElem? (i := 100) rfl), lw_m3 (List.mem_of_getElem? (i := 214) rfl), lw_m3 (List.mem_of_getElem? (i := 215) rfl)⟩
set_option maxRecDepth 4096 in
theorem lw_p4 : lw_okq (⟨"ToldNet$Tape", "kindOf", "(IIJ)I"⟩, 9) := ⟨lw_ne0, lw_m1 (List.mem_of_getElem? (i := 100) rfl), lw_m3 (List.mem_of_getElem? (i := 220) rfl), lw_m3 (List.mem_of_getElem? (i := 221) rfl)⟩
set_option maxRecDepth 4096 in
theorem lw_p5 : lw_okq (⟨"ToldNet$Tape", "nameKind", "(J)I"⟩, 9) := ⟨lw_ne0, lw_m1 (List.mem_of_getElem? (i := 100) rfl), lw_m3 (List.mem_of_getElem? (i := 224) rfl), lw_m3 (List.mem_of_getElem? (i := 225) rfl)⟩
set_option maxRecDepth 4096 in
theorem lw_p6 : lw_okq (⟨"ToldNet$Tape", "blame", "(II)V"⟩, 9) := ⟨lw_ne0, lw_m1 (List.mem_of_getElem? (i := 100) rfl), lw_m3 (List.mem_of_getElem? (i := 237) rfl), lw_m3 (List.mem_of_getElem? (i := 238) rfl)⟩
set_option maxRecDepth 4096 in
theorem lw_p7 : lw_okq (⟨"ToldNet$Tape", "keep", "(IJI)V"⟩, 9) := ⟨lw_ne0, lw_m1 (List.mem_of_getElem? (i := 100) rfl), lw_m4 (List.mem_of_getElem? (i := 1) rfl), lw_m4 (List.mem_of_getElem? (i := 2) rfl)⟩
set_option maxRecDepth 4096 in
theorem lw_p8 : lw_okq (⟨"ToldNet$Text", "takeTell", "(LToldNet$Tape;I)I"⟩, 17) := ⟨lw_ne1, lw_m1 (List.mem_of_getElem? (i := 204) rfl), lw_m4 (List.mem_of_getElem? (i := 10) rfl), lw_m4 (List.mem_of_getElem? (i := 11) rfl)⟩
set_option maxRecDepth 4096 in
theorem lw_p9 : lw_okq (⟨"ToldNet$Text", "takeBox", "(LToldNet$Tape;I)I"⟩, 17) := ⟨lw_ne1, lw_m1 (List.mem_of_getElem? (i := 204) rfl), lw_m4 (List.mem_of_getElem? (i := 14) rfl), lw_m4 (List.mem_of_getElem? (i := 15) rfl)⟩
set_option maxRecDepth 4096 in
theorem lw_p10 : lw_okq (⟨"ToldNet$Text", "findName", "(J)I"⟩, 17) := ⟨lw_ne1, lw_m1 (List.mem_of_getElem? (i := 204) rfl), lw_m4 (List.mem_of_getElem? (i := 18) rfl), lw_m4 (List.mem_of_getElem? (i := 19) rfl)⟩
set_option maxRecDepth 4096 in
theorem lw_p11 : lw_okq (⟨"ToldNet$Text", "blame", "(II)V"⟩, 17) := ⟨lw_ne1, lw_m1 (List.mem_of_getElem? (i := 204) rfl), lw_m4 (List.mem_of_getElem? (i := 22) rfl), lw_m4 (List.mem_of_getElem? (i := 23) rfl)⟩
set_option maxRecDepth 4096 in
theorem lw_p12 : lw_okq (⟨"ToldNet$Text", "postTold", "(LToldNet$Tape;I)I"⟩, 17) := ⟨lw_ne1, lw_m1 (List.mem_of_getElem? (i := 204) rfl), lw_m4 (List.mem_of_getElem? (i := 26) rfl), lw_m4 (List.mem_of_getElem? (i := 27) rfl)⟩
set_option maxRecDepth 4096 in
theorem lw_p13 : lw_okq (⟨"ToldNet$Text", "takeOfBox", "(LToldNet$Tape;II)V"⟩, 17) := ⟨lw_ne1, lw_m1 (List.mem_of_getElem? (i := 204) rfl), lw_m4 (List.mem_of_getElem? (i := 30) rfl), lw_m4 (List.mem_of_getElem? (i := 31) rfl)⟩
set_option maxRecDepth 4096 in
theorem lw_p14 : lw_okq (⟨"ToldNet$Text", "boxNamed", "(LToldNet$Tape;I)I"⟩, 17) := ⟨lw_ne1, lw_m1 (List.mem_of_getElem? (i := 204) rfl), lw_m4 (List.mem_of_getElem? (i := 34) rfl), lw_m4 (List.mem_of_getElem? (i := 35) rfl)⟩
set_option maxRecDepth 4096 in
theorem lw_p15 : lw_okq (⟨"ToldNet$Text", "takeWord", "(IIII)V"⟩, 17) := ⟨lw_ne1, lw_m1 (List.mem_of_getElem? (i := 204) rfl), lw_m4 (List.mem_of_getElem? (i := 39) rfl), lw_m4 (List.mem_of_getElem? (i := 40) rfl)⟩
def lw_privs_1 : List (MethodName × Nat) := [(⟨"ToldNet$Tape", "skipBlanks", "(I)I"⟩, 9), (⟨"ToldNet$Tape", "sortOf", "(I)I"⟩, 9), (⟨"ToldNet$Tape", "endOf", "(I)I"⟩, 9), (⟨"ToldNet$Tape", "valueOf", "(II)J"⟩, 9), (⟨"ToldNet$Tape", "kindOf", "(IIJ)I"⟩, 9), (⟨"ToldNet$Tape", "nameKind", "(J)I"⟩, 9), (⟨"ToldNet$Tape", "blame", "(II)V"⟩, 9), (⟨"ToldNet$Tape", "keep", "(IJI)V"⟩, 9), (⟨"ToldNet$Text", "takeTell", "(LToldNet$Tape;I)I"⟩, 17), (⟨"ToldNet$Text", "takeBox", "(LToldNet$Tape;I)I"⟩, 17), (⟨"ToldNet$Text", "findName", "(J)I"⟩, 17), (⟨"ToldNet$Text", "blame", "(II)V"⟩, 17), (⟨"ToldNet$Text", "postTold", "(LToldNet$Tape;I)I"⟩, 17), (⟨"ToldNet$Text", "takeOfBox", "(LToldNet$Tape;II)V"⟩, 17), (⟨"ToldNet$Text", "boxNamed", "(LToldNet$Tape;I)I"⟩, 17), (⟨"ToldNet$Text", "takeWord", "(IIII)V"⟩, 17)]
theorem lw_r1 : ∀ q ∈ lw_privs_1, lw_okq q := List.forall_mem_cons.mpr ⟨lw_p0, List.forall_mem_cons.mpr ⟨lw_p1, List.forall_mem_cons.mpr ⟨lw_p2, List.forall_mem_cons.mpr ⟨lw_p3, List.forall_mem_cons.mpr ⟨lw_p4, List.forall_mem_cons.mpr ⟨lw_p5, List.forall_mem_cons.mpr ⟨lw_p6, List.forall_mem_cons.mpr ⟨lw_p7, List.forall_mem_cons.mpr ⟨lw_p8, List.forall_mem_cons.mpr ⟨lw_p9, List.forall_mem_cons.mpr ⟨lw_p10, List.forall_mem_cons.mpr ⟨lw_p11, List.forall_mem_cons.mpr ⟨lw_p12, List.forall_mem_cons.mpr ⟨lw_p13, List.forall_mem_cons.mpr ⟨lw_p14, List.forall_mem_cons.mpr ⟨lw_p15, fun _ h => absurd h List.not_mem_nil⟩⟩⟩⟩⟩⟩⟩⟩⟩⟩⟩⟩⟩⟩⟩⟩
set_option maxRecDepth 4096 in
theorem lw_p16 : lw_okq (⟨"ToldNet$Text", "takeSides", "(LToldNet$Tape;I)V"⟩, 17) := ⟨lw_ne1, lw_m1 (List.mem_of_getElem? (i := 204) rfl), lw_m4 (List.mem_of_getElem? (i := 51) rfl), lw_m4 (List.mem_of_getElem? (i := 52) rfl)⟩
set_option maxRecDepth 4096 in
theorem lw_p17 : lw_okq (⟨"ToldNet$Text", "takeStar", "(LToldNet$Tape;I)V"⟩, 17) := ⟨lw_ne1, lw_m1 (List.mem_of_getElem? (i := 204) rfl), lw_m4 (List.mem_of_getElem? (i := 61) rfl), lw_m4 (List.mem_of_getElem? (i := 62) rfl)⟩
set_option maxRecDepth 4096 in
theorem lw_p18 : lw_okq (⟨"ToldNet$Text", "takePair", "(LToldNet$Tape;I)V"⟩, 17) := ⟨lw_ne1, lw_m1 (List.mem_of_getElem? (i := 204) rfl), lw_m4 (List.mem_of_getElem? (i := 65) rfl), lw_m4 (List.mem_of_getElem? (i := 66) rfl)⟩
set_option maxRecDepth 4096 in
theorem lw_p19 : lw_okq (⟨"ToldNet$Text", "checkAlsos", "(LToldNet$Tape;)V"⟩, 17) := ⟨lw_ne1, lw_m1 (List.mem_of_getElem? (i := 204) rfl), lw_m4 (List.mem_of_getElem? (i := 71) rfl), lw_m4 (List.mem_of_getElem? (i := 72) rfl)⟩
set_option maxRecDepth 4096 in
theorem lw_p20 : lw_okq (⟨"ToldNet$Text", "boxOf", "(I)I"⟩, 17) := ⟨lw_ne1, lw_m1 (List.mem_of_getElem? (i := 204) rfl), lw_m4 (List.mem_of_getElem? (i := 83) rfl), lw_m4 (List.mem_of_getElem? (i := 84) rfl)⟩
set_option maxRecDepth 4096 in
theorem lw_p21 : lw_okq (⟨"ToldNet$Text", "numberOf", "(LToldNet$Parting;I)I"⟩, 17) := ⟨lw_ne1, lw_m1 (List.mem_of_getElem? (i := 204) rfl), lw_m4 (List.mem_of_getElem? (i := 93) rfl), lw_m4 (List.mem_of_getElem? (i := 94) rfl)⟩
set_option maxRecDepth 4096 in
theorem lw_p22 : lw_okq (⟨"ToldNet$Text", "numbered", "(LToldNet$Parting;I)I"⟩, 17) := ⟨lw_ne1, lw_m1 (List.mem_of_getElem? (i := 204) rfl), lw_m4 (List.mem_of_getElem? (i := 103) rfl), lw_m4 (List.mem_of_getElem? (i := 104) rfl)⟩
set_option maxRecDepth 4096 in
theorem lw_p23 : lw_okq (⟨"ToldNet$Rule", "countBetween", "(LToldNet$Net;LToldNet$Parting;)V"⟩, 4) := ⟨lw_ne2, lw_m2 (List.mem_of_getElem? (i := 28) rfl), lw_m4 (List.mem_of_getElem? (i := 150) rfl), lw_m4 (List.mem_of_getElem? (i := 151) rfl)⟩
set_option maxRecDepth 4096 in
theorem lw_p24 : lw_okq (⟨"ToldNet$Rule", "takeCrowds", "(LToldNet$Telling;)V"⟩, 4) := ⟨lw_ne2, lw_m2 (List.mem_of_getElem? (i := 28) rfl), lw_m4 (List.mem_of_getElem? (i := 156) rfl), lw_m4 (List.mem_of_getElem? (i := 157) rfl)⟩
set_option maxRecDepth 4096 in
theorem lw_p25 : lw_okq (⟨"ToldNet$Rule", "isSparing", "(III)Z"⟩, 4) := ⟨lw_ne2, lw_m2 (List.mem_of_getElem? (i := 28) rfl), lw_m4 (List.mem_of_getElem? (i := 164) rfl), lw_m4 (List.mem_of_getElem? (i := 165) rfl)⟩
set_option maxRecDepth 4096 in
theorem lw_p26 : lw_okq (⟨"ToldNet$Rule", "takeSides", "(LToldNet$Telling;)V"⟩, 4) := ⟨lw_ne2, lw_m2 (List.mem_of_getElem? (i := 28) rfl), lw_m4 (List.mem_of_getElem? (i := 171) rfl), lw_m4 (List.mem_of_getElem? (i := 172) rfl)⟩
set_option maxRecDepth 4096 in
theorem lw_p27 : lw_okq (⟨"ToldNet$Rule", "takeStars", "(LToldNet$Net;LToldNet$Telling;)V"⟩, 4) := ⟨lw_ne2, lw_m2 (List.mem_of_getElem? (i := 28) rfl), lw_m4 (List.mem_of_getElem? (i := 175) rfl), lw_m4 (List.mem_of_getElem? (i := 176) rfl)⟩
set_option maxRecDepth 4096 in
theorem lw_p28 : lw_okq (⟨"ToldNet$Rule", "layRows", "(LToldNet$Net;LToldNet$Telling;)V"⟩, 4) := ⟨lw_ne2, lw_m2 (List.mem_of_getElem? (i := 28) rfl), lw_m4 (List.mem_of_getElem? (i := 179) rfl), lw_m4 (List.mem_of_getElem? (i := 180) rfl)⟩
set_option maxRecDepth 4096 in
theorem lw_p29 : lw_okq (⟨"ToldNet$Rule", "takeChains", "(LToldNet$Net;LToldNet$Telling;)V"⟩, 4) := ⟨lw_ne2, lw_m2 (List.mem_of_getElem? (i := 28) rfl), lw_m4 (List.mem_of_getElem? (i := 189) rfl), lw_m4 (List.mem_of_getElem? (i := 190) rfl)⟩
set_option maxRecDepth 4096 in
theorem lw_p30 : lw_okq (⟨"ToldNet$Search", "joinTwo", "(LToldNet$Net;)Z"⟩, 7) := ⟨lw_ne3, lw_m2 (List.mem_of_getElem? (i := 47) rfl), lw_m4 (List.mem_of_getElem? (i := 221) rfl), lw_m4 (List.mem_of_getElem? (i := 222) rfl)⟩
set_option maxRecDepth 4096 in
theorem lw_p31 : lw_okq (⟨"ToldNet$Search", "movePost", "(LToldNet$Net;I)Z"⟩, 7) := ⟨lw_ne3, lw_m2 (List.mem_of_getElem? (i := 47) rfl), lw_m4 (List.mem_of_getElem? (i := 230) rfl), lw_m4 (List.mem_of_getElem? (i := 231) rfl)⟩
def lw_privs_2 : List (MethodName × Nat) := [(⟨"ToldNet$Text", "takeSides", "(LToldNet$Tape;I)V"⟩, 17), (⟨"ToldNet$Text", "takeStar", "(LToldNet$Tape;I)V"⟩, 17), (⟨"ToldNet$Text", "takePair", "(LToldNet$Tape;I)V"⟩, 17), (⟨"ToldNet$Text", "checkAlsos", "(LToldNet$Tape;)V"⟩, 17), (⟨"ToldNet$Text", "boxOf", "(I)I"⟩, 17), (⟨"ToldNet$Text", "numberOf", "(LToldNet$Parting;I)I"⟩, 17), (⟨"ToldNet$Text", "numbered", "(LToldNet$Parting;I)I"⟩, 17), (⟨"ToldNet$Rule", "countBetween", "(LToldNet$Net;LToldNet$Parting;)V"⟩, 4), (⟨"ToldNet$Rule", "takeCrowds", "(LToldNet$Telling;)V"⟩, 4), (⟨"ToldNet$Rule", "isSparing", "(III)Z"⟩, 4), (⟨"ToldNet$Rule", "takeSides", "(LToldNet$Telling;)V"⟩, 4), (⟨"ToldNet$Rule", "takeStars", "(LToldNet$Net;LToldNet$Telling;)V"⟩, 4), (⟨"ToldNet$Rule", "layRows", "(LToldNet$Net;LToldNet$Telling;)V"⟩, 4), (⟨"ToldNet$Rule", "takeChains", "(LToldNet$Net;LToldNet$Telling;)V"⟩, 4), (⟨"ToldNet$Search", "joinTwo", "(LToldNet$Net;)Z"⟩, 7), (⟨"ToldNet$Search", "movePost", "(LToldNet$Net;I)Z"⟩, 7)]
theorem lw_r2 : ∀ q ∈ lw_privs_2, lw_okq q := List.forall_mem_cons.mpr ⟨lw_p16, List.forall_mem_cons.mpr ⟨lw_p17, List.forall_mem_cons.mpr ⟨lw_p18, List.forall_mem_cons.mpr ⟨lw_p19, List.forall_mem_cons.mpr ⟨lw_p20, List.forall_mem_cons.mpr ⟨lw_p21, List.forall_mem_cons.mpr ⟨lw_p22, List.forall_mem_cons.mpr ⟨lw_p23, List.forall_mem_cons.mpr ⟨lw_p24, List.forall_mem_cons.mpr ⟨lw_p25, List.forall_mem_cons.mpr ⟨lw_p26, List.forall_mem_cons.mpr ⟨lw_p27, List.forall_mem_cons.mpr ⟨lw_p28, List.forall_mem_cons.mpr ⟨lw_p29, List.forall_mem_cons.mpr ⟨lw_p30, List.forall_mem_cons.mpr ⟨lw_p31, fun _ h => absurd h List.not_mem_nil⟩⟩⟩⟩⟩⟩⟩⟩⟩⟩⟩⟩⟩⟩⟩⟩
set_option maxRecDepth 4096 in
theorem lw_p32 : lw_okq (⟨"ToldNet$Parting", "partOnce", "(LToldNet$Net;)V"⟩, 5) := ⟨lw_ne4, lw_m2 (List.mem_of_getElem? (i := 61) rfl), lw_m5 (List.mem_of_getElem? (i := 16) rfl), lw_m5 (List.mem_of_getElem? (i := 17) rfl)⟩
set_option maxRecDepth 4096 in
theorem lw_p33 : lw_okq (⟨"ToldNet$Parting", "isAlike", "(LToldNet$Net;II)Z"⟩, 5) := ⟨lw_ne4, lw_m2 (List.mem_of_getElem? (i := 61) rfl), lw_m5 (List.mem_of_getElem? (i := 20) rfl), lw_m5 (List.mem_of_getElem? (i := 21) rfl)⟩
set_option maxRecDepth 4096 in
theorem lw_p34 : lw_okq (⟨"ToldNet", "find", "(I)LToldNet$Telling;"⟩, 14) := ⟨lw_ne5, lw_m1 (List.mem_of_getElem? (i := 28) rfl), lw_m5 (List.mem_of_getElem? (i := 29) rfl), lw_m5 (List.mem_of_getElem? (i := 30) rfl)⟩
set_option maxRecDepth 4096 in
theorem lw_p35 : lw_okq (⟨"ToldNet$Sorts", "forget", "()V"⟩, 13) := ⟨lw_ne6, lw_m2 (List.mem_of_getElem? (i := 184) rfl), lw_m5 (List.mem_of_getElem? (i := 56) rfl), lw_m5 (List.mem_of_getElem? (i := 57) rfl)⟩
set_option maxRecDepth 4096 in
theorem lw_p36 : lw_okq (⟨"ToldNet$Sorts", "countFree", "(IZ)V"⟩, 13) := ⟨lw_ne6, lw_m2 (List.mem_of_getElem? (i := 184) rfl), lw_m5 (List.mem_of_getElem? (i := 66) rfl), lw_m5 (List.mem_of_getElem? (i := 67) rfl)⟩
set_option maxRecDepth 4096 in
theorem lw_p37 : lw_okq (⟨"ToldNet$Sorts", "settle", "(I)V"⟩, 13) := ⟨lw_ne6, lw_m2 (List.mem_of_getElem? (i := 184) rfl), lw_m5 (List.mem_of_getElem? (i := 70) rfl), lw_m5 (List.mem_of_getElem? (i := 71) rfl)⟩
set_option maxRecDepth 4096 in
theorem lw_p38 : lw_okq (⟨"ToldNet$Search", "partPiece", "(LToldNet$Net;II)V"⟩, 7) := ⟨lw_ne3, lw_m2 (List.mem_of_getElem? (i := 47) rfl), lw_m5 (List.mem_of_getElem? (i := 137) rfl), lw_m5 (List.mem_of_getElem? (i := 138) rfl)⟩
set_option maxRecDepth 4096 in
theorem lw_p39 : lw_okq (⟨"ToldNet$Sorts", "see", "(Z)V"⟩, 13) := ⟨lw_ne6, lw_m2 (List.mem_of_getElem? (i := 184) rfl), lw_m5 (List.mem_of_getElem? (i := 199) rfl), lw_m5 (List.mem_of_getElem? (i := 200) rfl)⟩
set_option maxRecDepth 4096 in
theorem lw_p40 : lw_okq (⟨"ToldNet$Sorts", "countSteps", "(II)I"⟩, 13) := ⟨lw_ne6, lw_m2 (List.mem_of_getElem? (i := 184) rfl), lw_m5 (List.mem_of_getElem? (i := 205) rfl), lw_m5 (List.mem_of_getElem? (i := 206) rfl)⟩
set_option maxRecDepth 4096 in
theorem lw_p41 : lw_okq (⟨"ToldNet$Sorts", "countTrios", "(I)I"⟩, 13) := ⟨lw_ne6, lw_m2 (List.mem_of_getElem? (i := 184) rfl), lw_m5 (List.mem_of_getElem? (i := 210) rfl), lw_m5 (List.mem_of_getElem? (i := 211) rfl)⟩
set_option maxRecDepth 4096 in
theorem lw_p42 : lw_okq (⟨"ToldNet$Sorts", "sum", "(IIIII)I"⟩, 13) := ⟨lw_ne6, lw_m2 (List.mem_of_getElem? (i := 184) rfl), lw_m5 (List.mem_of_getElem? (i := 214) rfl), lw_m5 (List.mem_of_getElem? (i := 215) rfl)⟩
set_option maxRecDepth 4096 in
theorem lw_p43 : lw_okq (⟨"ToldNet$Sorts", "countAsked", "(I)V"⟩, 13) := ⟨lw_ne6, lw_m2 (List.mem_of_getElem? (i := 184) rfl), lw_m5 (List.mem_of_getElem? (i := 221) rfl), lw_m5 (List.mem_of_getElem? (i := 222) rfl)⟩
set_option maxRecDepth 4096 in
theorem lw_p44 : lw_okq (⟨"ToldNet$Sorts", "share", "(II)I"⟩, 13) := ⟨lw_ne6, lw_m2 (List.mem_of_getElem? (i := 184) rfl), lw_m5 (List.mem_of_getElem? (i := 225) rfl), lw_m5 (List.mem_of_getElem? (i := 226) rfl)⟩
set_option maxRecDepth 4096 in
theorem lw_p45 : lw_okq (⟨"ToldNet$Reader", "tellOnly", "(LToldNet$Telling;I)V"⟩, 8) := ⟨lw_ne7, lw_m2 (List.mem_of_getElem? (i := 236) rfl), lw_m6 (List.mem_of_getElem? (i := 47) rfl), lw_m6 (List.mem_of_getElem? (i := 48) rfl)⟩
set_option maxRecDepth 4096 in
theorem lw_p46 : lw_okq (⟨"ToldNet$Telling", "hasLike", "(LToldNet$Telling;I)Z"⟩, 7) := ⟨lw_ne8, lw_m2 (List.mem_of_getElem? (i := 55) rfl), lw_m6 (List.mem_of_getElem? (i := 92) rfl), lw_m6 (List.mem_of_getElem? (i := 93) rfl)⟩
set_option maxRecDepth 4096 in
theorem lw_p47 : lw_okq (⟨"ToldNet$Telling", "isLike", "(ILToldNet$Telling;I)Z"⟩, 7) := ⟨lw_ne8, lw_m2 (List.mem_of_getElem? (i := 55) rfl), lw_m6 (List.mem_of_getElem? (i := 96) rfl), lw_m6 (List.mem_of_getElem? (i := 97) rfl)⟩
def lw_privs_3 : List (MethodName × Nat) := [(⟨"ToldNet$Parting", "partOnce", "(LToldNet$Net;)V"⟩, 5), (⟨"ToldNet$Parting", "isAlike", "(LToldNet$Net;II)Z"⟩, 5), (⟨"ToldNet", "find", "(I)LToldNet$Telling;"⟩, 14), (⟨"ToldNet$Sorts", "forget", "()V"⟩, 13), (⟨"ToldNet$Sorts", "countFree", "(IZ)V"⟩, 13), (⟨"ToldNet$Sorts", "settle", "(I)V"⟩, 13), (⟨"ToldNet$Search", "partPiece", "(LToldNet$Net;II)V"⟩, 7), (⟨"ToldNet$Sorts", "see", "(Z)V"⟩, 13), (⟨"ToldNet$Sorts", "countSteps", "(II)I"⟩, 13), (⟨"ToldNet$Sorts", "countTrios", "(I)I"⟩, 13), (⟨"ToldNet$Sorts", "sum", "(IIIII)I"⟩, 13), (⟨"ToldNet$Sorts", "countAsked", "(I)V"⟩, 13), (⟨"ToldNet$Sorts", "share", "(II)I"⟩, 13), (⟨"ToldNet$Reader", "tellOnly", "(LToldNet$Telling;I)V"⟩, 8), (⟨"ToldNet$Telling", "hasLike", "(LToldNet$Telling;I)Z"⟩, 7), (⟨"ToldNet$Telling", "isLike", "(ILToldNet$Telling;I)Z"⟩, 7)]
theorem lw_r3 : ∀ q ∈ lw_privs_3, lw_okq q := List.forall_mem_cons.mpr ⟨lw_p32, List.forall_mem_cons.mpr ⟨lw_p33, List.forall_mem_cons.mpr ⟨lw_p34, List.forall_mem_cons.mpr ⟨lw_p35, List.forall_mem_cons.mpr ⟨lw_p36, List.forall_mem_cons.mpr ⟨lw_p37, List.forall_mem_cons.mpr ⟨lw_p38, List.forall_mem_cons.mpr ⟨lw_p39, List.forall_mem_cons.mpr ⟨lw_p40, List.forall_mem_cons.mpr ⟨lw_p41, List.forall_mem_cons.mpr ⟨lw_p42, List.forall_mem_cons.mpr ⟨lw_p43, List.forall_mem_cons.mpr ⟨lw_p44, List.forall_mem_cons.mpr ⟨lw_p45, List.forall_mem_cons.mpr ⟨lw_p46, List.forall_mem_cons.mpr ⟨lw_p47, fun _ h => absurd h List.not_mem_nil⟩⟩⟩⟩⟩⟩⟩⟩⟩⟩⟩⟩⟩⟩⟩⟩
set_option maxRecDepth 4096 in
theorem lw_p48 : lw_okq (⟨"ToldNet$Telling", "isSameRow", "(ILToldNet$Telling;I)Z"⟩, 7) := ⟨lw_ne8, lw_m2 (List.mem_of_getElem? (i := 55) rfl), lw_m6 (List.mem_of_getElem? (i := 106) rfl), lw_m6 (List.mem_of_getElem? (i := 107) rfl)⟩
set_option maxRecDepth 4096 in
theorem lw_p49 : lw_okq (⟨"ToldNet$Order", "sumWith", "(LToldNet$Telling;I)I"⟩, 8) := ⟨lw_ne9, lw_m3 (List.mem_of_getElem? (i := 30) rfl), lw_m6 (List.mem_of_getElem? (i := 121) rfl), lw_m6 (List.mem_of_getElem? (i := 122) rfl)⟩
set_option maxRecDepth 4096 in
theorem lw_p50 : lw_okq (⟨"ToldNet$Order", "canFollow", "(LToldNet$Telling;II)Z"⟩, 8) := ⟨lw_ne9, lw_m3 (List.mem_of_getElem? (i := 30) rfl), lw_m6 (List.mem_of_getElem? (i := 135) rfl), lw_m6 (List.mem_of_getElem? (i := 136) rfl)⟩
set_option maxRecDepth 4096 in
theorem lw_p51 : lw_okq (⟨"ToldNet$Order", "choose", "(LToldNet$Telling;)V"⟩, 8) := ⟨lw_ne9, lw_m3 (List.mem_of_getElem? (i := 30) rfl), lw_m6 (List.mem_of_getElem? (i := 155) rfl), lw_m6 (List.mem_of_getElem? (i := 156) rfl)⟩
set_option maxRecDepth 4096 in
theorem lw_p52 : lw_okq (⟨"ToldNet$Order", "spareOf", "(LToldNet$Telling;I)I"⟩, 8) := ⟨lw_ne9, lw_m3 (List.mem_of_getElem? (i := 30) rfl), lw_m6 (List.mem_of_getElem? (i := 159) rfl), lw_m6 (List.mem_of_getElem? (i := 160) rfl)⟩
set_option maxRecDepth 4096 in
theorem lw_p53 : lw_okq (⟨"ToldNet$Net", "swap", "(IIII)V"⟩, 2) := ⟨lw_ne10, lw_m1 (List.mem_of_getElem? (i := 43) rfl), lw_m6 (List.mem_of_getElem? (i := 199) rfl), lw_m6 (List.mem_of_getElem? (i := 200) rfl)⟩
set_option maxRecDepth 4096 in
theorem lw_p54 : lw_okq (⟨"ToldNet", "countIn", "(I)I"⟩, 14) := ⟨lw_ne5, lw_m1 (List.mem_of_getElem? (i := 28) rfl), lw_m6 (List.mem_of_getElem? (i := 213) rfl), lw_m6 (List.mem_of_getElem? (i := 214) rfl)⟩
set_option maxRecDepth 4096 in
theorem lw_p55 : lw_okq (⟨"java/lang/Throwable", "fillInStackTrace", "(I)Ljava/lang/Throwable;"⟩, 6) := ⟨lw_ne11, lw_m7 (List.mem_of_getElem? (i := 23) rfl), lw_m7 (List.mem_of_getElem? (i := 21) rfl), lw_m7 (List.mem_of_getElem? (i := 22) rfl)⟩
set_option maxRecDepth 4096 in
theorem lw_p56 : lw_okq (⟨"ToldNetModel", "typed", "(I)V"⟩, 82) := ⟨lw_ne12, lw_m7 (List.mem_of_getElem? (i := 82) rfl), lw_m8 (List.mem_of_getElem? (i := 99) rfl), lw_m8 (List.mem_of_getElem? (i := 100) rfl)⟩
set_option maxRecDepth 4096 in
theorem lw_p57 : lw_okq (⟨"ToldNetModel", "isPair", "(II)Z"⟩, 82) := ⟨lw_ne12, lw_m7 (List.mem_of_getElem? (i := 82) rfl), lw_m8 (List.mem_of_getElem? (i := 115) rfl), lw_m8 (List.mem_of_getElem? (i := 116) rfl)⟩
set_option maxRecDepth 4096 in
theorem lw_p58 : lw_okq (⟨"ToldNetModel", "isPost", "(I)Z"⟩, 82) := ⟨lw_ne12, lw_m7 (List.mem_of_getElem? (i := 82) rfl), lw_m8 (List.mem_of_getElem? (i := 119) rfl), lw_m8 (List.mem_of_getElem? (i := 120) rfl)⟩
set_option maxRecDepth 4096 in
theorem lw_p59 : lw_okq (⟨"ToldNetModel", "isDay", "(I)Z"⟩, 82) := ⟨lw_ne12, lw_m7 (List.mem_of_getElem? (i := 82) rfl), lw_m8 (List.mem_of_getElem? (i := 135) rfl), lw_m8 (List.mem_of_getElem? (i := 136) rfl)⟩
set_option maxRecDepth 4096 in
theorem lw_p60 : lw_okq (⟨"ToldNetModel", "asOf", "(I)V"⟩, 82) := ⟨lw_ne12, lw_m7 (List.mem_of_getElem? (i := 82) rfl), lw_m8 (List.mem_of_getElem? (i := 139) rfl), lw_m8 (List.mem_of_getElem? (i := 140) rfl)⟩
set_option maxRecDepth 4096 in
theorem lw_p61 : lw_okq (⟨"ToldNetModel", "aimAtNet", "()V"⟩, 82) := ⟨lw_ne12, lw_m7 (List.mem_of_getElem? (i := 82) rfl), lw_m8 (List.mem_of_getElem? (i := 155) rfl), lw_m8 (List.mem_of_getElem? (i := 156) rfl)⟩
set_option maxRecDepth 4096 in
theorem lw_p62 : lw_okq (⟨"ToldNetModel", "leastOfAll", "()I"⟩, 82) := ⟨lw_ne12, lw_m7 (List.mem_of_getElem? (i := 82) rfl), lw_m8 (List.mem_of_getElem? (i := 159) rfl), lw_m8 (List.mem_of_getElem? (i := 160) rfl)⟩
set_option maxRecDepth 4096 in
theorem lw_p63 : lw_okq (⟨"ToldNetModel", "lengthBy", "()I"⟩, 82) := ⟨lw_ne12, lw_m7 (List.mem_of_getElem? (i := 82) rfl), lw_m8 (List.mem_of_getElem? (i := 163) rfl), lw_m8 (List.mem_of_getElem? (i := 164) rfl)⟩
def lw_privs_4 : List (MethodName × Nat) := [(⟨"ToldNet$Telling", "isSameRow", "(ILToldNet$Telling;I)Z"⟩, 7), (⟨"ToldNet$Order", "sumWith", "(LToldNet$Telling;I)I"⟩, 8), (⟨"ToldNet$Order", "canFollow", "(LToldNet$Telling;II)Z"⟩, 8), (⟨"ToldNet$Order", "choose", "(LToldNet$Telling;)V"⟩, 8), (⟨"ToldNet$Order", "spareOf", "(LToldNet$Telling;I)I"⟩, 8), (⟨"ToldNet$Net", "swap", "(IIII)V"⟩, 2), (⟨"ToldNet", "countIn", "(I)I"⟩, 14), (⟨"java/lang/Throwable", "fillInStackTrace", "(I)Ljava/lang/Throwable;"⟩, 6), (⟨"ToldNetModel", "typed", "(I)V"⟩, 82), (⟨"ToldNetModel", "isPair", "(II)Z"⟩, 82), (⟨"ToldNetModel", "isPost", "(I)Z"⟩, 82), (⟨"ToldNetModel", "isDay", "(I)Z"⟩, 82), (⟨"ToldNetModel", "asOf", "(I)V"⟩, 82), (⟨"ToldNetModel", "aimAtNet", "()V"⟩, 82), (⟨"ToldNetModel", "leastOfAll", "()I"⟩, 82), (⟨"ToldNetModel", "lengthBy", "()I"⟩, 82)]
theorem lw_r4 : ∀ q ∈ lw_privs_4, lw_okq q := List.forall_mem_cons.mpr ⟨lw_p48, List.forall_mem_cons.mpr ⟨lw_p49, List.forall_mem_cons.mpr ⟨lw_p50, List.forall_mem_cons.mpr ⟨lw_p51, List.forall_mem_cons.mpr ⟨lw_p52, List.forall_mem_cons.mpr ⟨lw_p53, List.forall_mem_cons.mpr ⟨lw_p54, List.forall_mem_cons.mpr ⟨lw_p55, List.forall_mem_cons.mpr ⟨lw_p56, List.forall_mem_cons.mpr ⟨lw_p57, List.forall_mem_cons.mpr ⟨lw_p58, List.forall_mem_cons.mpr ⟨lw_p59, List.forall_mem_cons.mpr ⟨lw_p60, List.forall_mem_cons.mpr ⟨lw_p61, List.forall_mem_cons.mpr ⟨lw_p62, List.forall_mem_cons.mpr ⟨lw_p63, fun _ h => absurd h List.not_mem_nil⟩⟩⟩⟩⟩⟩⟩⟩⟩⟩⟩⟩⟩⟩⟩⟩
set_option maxRecDepth 4096 in
theorem lw_p64 : lw_okq (⟨"ToldNetModel", "rule", "(I)V"⟩, 82) := ⟨lw_ne12, lw_m7 (List.mem_of_getElem? (i := 82) rfl), lw_m8 (List.mem_of_getElem? (i := 167) rfl), lw_m8 (List.mem_of_getElem? (i := 168) rfl)⟩
set_option maxRecDepth 4096 in
theorem lw_p65 : lw_okq (⟨"ToldNetModel", "number", "(I)V"⟩, 82) := ⟨lw_ne12, lw_m7 (List.mem_of_getElem? (i := 82) rfl), lw_m8 (List.mem_of_getElem? (i := 171) rfl), lw_m8 (List.mem_of_getElem? (i := 172) rfl)⟩
set_option maxRecDepth 4096 in
theorem lw_p66 : lw_okq (⟨"ToldNetModel", "clearWords", "(I)V"⟩, 82) := ⟨lw_ne12, lw_m7 (List.mem_of_getElem? (i := 82) rfl), lw_m8 (List.mem_of_getElem? (i := 175) rfl), lw_m8 (List.mem_of_getElem? (i := 176) rfl)⟩
set_option maxRecDepth 4096 in
theorem lw_p67 : lw_okq (⟨"ToldNetModel", "weigh", "(I)V"⟩, 82) := ⟨lw_ne12, lw_m7 (List.mem_of_getElem? (i := 82) rfl), lw_m8 (List.mem_of_getElem? (i := 179) rfl), lw_m8 (List.mem_of_getElem? (i := 180) rfl)⟩
set_option maxRecDepth 4096 in
theorem lw_p68 : lw_okq (⟨"ToldNetModel", "exceptBits", "()I"⟩, 82) := ⟨lw_ne12, lw_m7 (List.mem_of_getElem? (i := 82) rfl), lw_m8 (List.mem_of_getElem? (i := 183) rfl), lw_m8 (List.mem_of_getElem? (i := 184) rfl)⟩
set_option maxRecDepth 4096 in
theorem lw_p69 : lw_okq (⟨"ToldNetModel", "hear", "(I)V"⟩, 82) := ⟨lw_ne12, lw_m7 (List.mem_of_getElem? (i := 82) rfl), lw_m8 (List.mem_of_getElem? (i := 190) rfl), lw_m8 (List.mem_of_getElem? (i := 191) rfl)⟩
set_option maxRecDepth 4096 in
theorem lw_p70 : lw_okq (⟨"ToldNetModel", "say", "(II)V"⟩, 82) := ⟨lw_ne12, lw_m7 (List.mem_of_getElem? (i := 82) rfl), lw_m8 (List.mem_of_getElem? (i := 194) rfl), lw_m8 (List.mem_of_getElem? (i := 195) rfl)⟩
set_option maxRecDepth 4096 in
theorem lw_p71 : lw_okq (⟨"ToldNetModel", "isIn", "(III)Z"⟩, 82) := ⟨lw_ne12, lw_m7 (List.mem_of_getElem? (i := 82) rfl), lw_m8 (List.mem_of_getElem? (i := 198) rfl), lw_m8 (List.mem_of_getElem? (i := 199) rfl)⟩
set_option maxRecDepth 4096 in
theorem lw_p72 : lw_okq (⟨"ToldNetModel", "hasOther", "(III)Z"⟩, 82) := ⟨lw_ne12, lw_m7 (List.mem_of_getElem? (i := 82) rfl), lw_m8 (List.mem_of_getElem? (i := 202) rfl), lw_m8 (List.mem_of_getElem? (i := 203) rfl)⟩
set_option maxRecDepth 4096 in
theorem lw_p73 : lw_okq (⟨"ToldNetModel", "lay", "(II)V"⟩, 82) := ⟨lw_ne12, lw_m7 (List.mem_of_getElem? (i := 82) rfl), lw_m8 (List.mem_of_getElem? (i := 206) rfl), lw_m8 (List.mem_of_getElem? (i := 207) rfl)⟩
set_option maxRecDepth 4096 in
theorem lw_p74 : lw_okq (⟨"ToldNetModel", "exceptsAnew", "(I)V"⟩, 82) := ⟨lw_ne12, lw_m7 (List.mem_of_getElem? (i := 82) rfl), lw_m8 (List.mem_of_getElem? (i := 210) rfl), lw_m8 (List.mem_of_getElem? (i := 211) rfl)⟩
set_option maxRecDepth 4096 in
theorem lw_p75 : lw_okq (⟨"ToldNetModel", "lengthOf", "(I)I"⟩, 82) := ⟨lw_ne12, lw_m7 (List.mem_of_getElem? (i := 82) rfl), lw_m8 (List.mem_of_getElem? (i := 214) rfl), lw_m8 (List.mem_of_getElem? (i := 215) rfl)⟩
set_option maxRecDepth 4096 in
theorem lw_p76 : lw_okq (⟨"ToldNetModel", "sorts", "(I)V"⟩, 82) := ⟨lw_ne12, lw_m7 (List.mem_of_getElem? (i := 82) rfl), lw_m8 (List.mem_of_getElem? (i := 218) rfl), lw_m8 (List.mem_of_getElem? (i := 219) rfl)⟩
set_option maxRecDepth 4096 in
theorem lw_p77 : lw_okq (⟨"ToldNetModel", "sortOf", "(IIIZ)I"⟩, 82) := ⟨lw_ne12, lw_m7 (List.mem_of_getElem? (i := 82) rfl), lw_m8 (List.mem_of_getElem? (i := 222) rfl), lw_m8 (List.mem_of_getElem? (i := 223) rfl)⟩
set_option maxRecDepth 4096 in
theorem lw_p78 : lw_okq (⟨"ToldNetModel", "goesOn", "(I)Z"⟩, 82) := ⟨lw_ne12, lw_m7 (List.mem_of_getElem? (i := 82) rfl), lw_m8 (List.mem_of_getElem? (i := 226) rfl), lw_m8 (List.mem_of_getElem? (i := 227) rfl)⟩
set_option maxRecDepth 4096 in
theorem lw_p79 : lw_okq (⟨"ToldNetModel", "piece", "(II)V"⟩, 82) := ⟨lw_ne12, lw_m7 (List.mem_of_getElem? (i := 82) rfl), lw_m8 (List.mem_of_getElem? (i := 234) rfl), lw_m8 (List.mem_of_getElem? (i := 235) rfl)⟩
def lw_privs_5 : List (MethodName × Nat) := [(⟨"ToldNetModel", "rule", "(I)V"⟩, 82), (⟨"ToldNetModel", "number", "(I)V"⟩, 82), (⟨"ToldNetModel", "clearWords", "(I)V"⟩, 82), (⟨"ToldNetModel", "weigh", "(I)V"⟩, 82), (⟨"ToldNetModel", "exceptBits", "()I"⟩, 82), (⟨"ToldNetModel", "hear", "(I)V"⟩, 82), (⟨"ToldNetModel", "say", "(II)V"⟩, 82), (⟨"ToldNetModel", "isIn", "(III)Z"⟩, 82), (⟨"ToldNetModel", "hasOther", "(III)Z"⟩, 82), (⟨"ToldNetModel", "lay", "(II)V"⟩, 82), (⟨"ToldNetModel", "exceptsAnew", "(I)V"⟩, 82), (⟨"ToldNetModel", "lengthOf", "(I)I"⟩, 82), (⟨"ToldNetModel", "sorts", "(I)V"⟩, 82), (⟨"ToldNetModel", "sortOf", "(IIIZ)I"⟩, 82), (⟨"ToldNetModel", "goesOn", "(I)Z"⟩, 82), (⟨"ToldNetModel", "piece", "(II)V"⟩, 82)]
theorem lw_r5 : ∀ q ∈ lw_privs_5, lw_okq q := List.forall_mem_cons.mpr ⟨lw_p64, List.forall_mem_cons.mpr ⟨lw_p65, List.forall_mem_cons.mpr ⟨lw_p66, List.forall_mem_cons.mpr ⟨lw_p67, List.forall_mem_cons.mpr ⟨lw_p68, List.forall_mem_cons.mpr ⟨lw_p69, List.forall_mem_cons.mpr ⟨lw_p70, List.forall_mem_cons.mpr ⟨lw_p71, List.forall_mem_cons.mpr ⟨lw_p72, List.forall_mem_cons.mpr ⟨lw_p73, List.forall_mem_cons.mpr ⟨lw_p74, List.forall_mem_cons.mpr ⟨lw_p75, List.forall_mem_cons.mpr ⟨lw_p76, List.forall_mem_cons.mpr ⟨lw_p77, List.forall_mem_cons.mpr ⟨lw_p78, List.forall_mem_cons.mpr ⟨lw_p79, fun _ h => absurd h List.not_mem_nil⟩⟩⟩⟩⟩⟩⟩⟩⟩⟩⟩⟩⟩⟩⟩⟩
set_option maxRecDepth 4096 in
theorem lw_p80 : lw_okq (⟨"ToldNetModel", "leaves", "(II)I"⟩, 82) := ⟨lw_ne12, lw_m7 (List.mem_of_getElem? (i := 82) rfl), lw_m8 (List.mem_of_getElem? (i := 238) rfl), lw_m8 (List.mem_of_getElem? (i := 239) rfl)⟩
set_option maxRecDepth 4096 in
theorem lw_p81 : lw_okq (⟨"ToldNetModel", "part", "(I)I"⟩, 82) := ⟨lw_ne12, lw_m7 (List.mem_of_getElem? (i := 82) rfl), lw_m9 (List.mem_of_getElem? (i := 6) rfl), lw_m9 (List.mem_of_getElem? (i := 7) rfl)⟩
set_option maxRecDepth 4096 in
theorem lw_p82 : lw_okq (⟨"ToldNetModel", "settle", "(I)V"⟩, 82) := ⟨lw_ne12, lw_m7 (List.mem_of_getElem? (i := 82) rfl), lw_m9 (List.mem_of_getElem? (i := 10) rfl), lw_m9 (List.mem_of_getElem? (i := 11) rfl)⟩
set_option maxRecDepth 4096 in
theorem lw_p83 : lw_okq (⟨"ToldNetModel", "labelsOf", "(I)V"⟩, 82) := ⟨lw_ne12, lw_m7 (List.mem_of_getElem? (i := 82) rfl), lw_m9 (List.mem_of_getElem? (i := 14) rfl), lw_m9 (List.mem_of_getElem? (i := 15) rfl)⟩
set_option maxRecDepth 4096 in
theorem lw_p84 : lw_okq (⟨"ToldNetModel", "moved", "(III)I"⟩, 82) := ⟨lw_ne12, lw_m7 (List.mem_of_getElem? (i := 82) rfl), lw_m9 (List.mem_of_getElem? (i := 18) rfl), lw_m9 (List.mem_of_getElem? (i := 19) rfl)⟩
set_option maxRecDepth 4096 in
theorem lw_p85 : lw_okq (⟨"ToldNetModel", "become", "(II)V"⟩, 82) := ⟨lw_ne12, lw_m7 (List.mem_of_getElem? (i := 82) rfl), lw_m9 (List.mem_of_getElem? (i := 22) rfl), lw_m9 (List.mem_of_getElem? (i := 23) rfl)⟩
set_option maxRecDepth 4096 in
theorem lw_p86 : lw_okq (⟨"ToldNetModel", "refine", "()I"⟩, 82) := ⟨lw_ne12, lw_m7 (List.mem_of_getElem? (i := 82) rfl), lw_m9 (List.mem_of_getElem? (i := 26) rfl), lw_m9 (List.mem_of_getElem? (i := 27) rfl)⟩
set_option maxRecDepth 4096 in
theorem lw_p87 : lw_okq (⟨"ToldNetModel", "isLike", "(III)Z"⟩, 82) := ⟨lw_ne12, lw_m7 (List.mem_of_getElem? (i := 82) rfl), lw_m9 (List.mem_of_getElem? (i := 30) rfl), lw_m9 (List.mem_of_getElem? (i := 31) rfl)⟩
set_option maxRecDepth 4096 in
theorem lw_p88 : lw_okq (⟨"ToldNetModel", "isTelling", "(I)Z"⟩, 82) := ⟨lw_ne12, lw_m7 (List.mem_of_getElem? (i := 82) rfl), lw_m9 (List.mem_of_getElem? (i := 38) rfl), lw_m9 (List.mem_of_getElem? (i := 39) rfl)⟩
set_option maxRecDepth 4096 in
theorem lw_p89 : lw_okq (⟨"ToldNetModel", "isBox", "(II)Z"⟩, 82) := ⟨lw_ne12, lw_m7 (List.mem_of_getElem? (i := 82) rfl), lw_m9 (List.mem_of_getElem? (i := 58) rfl), lw_m9 (List.mem_of_getElem? (i := 59) rfl)⟩
set_option maxRecDepth 4096 in
theorem lw_p90 : lw_okq (⟨"ToldNetModel", "seeks", "(II)Z"⟩, 82) := ⟨lw_ne12, lw_m7 (List.mem_of_getElem? (i := 82) rfl), lw_m9 (List.mem_of_getElem? (i := 66) rfl), lw_m9 (List.mem_of_getElem? (i := 67) rfl)⟩
set_option maxRecDepth 4096 in
theorem lw_p91 : lw_okq (⟨"ToldNetModel", "meets", "(IIII)Z"⟩, 82) := ⟨lw_ne12, lw_m7 (List.mem_of_getElem? (i := 82) rfl), lw_m9 (List.mem_of_getElem? (i := 70) rfl), lw_m9 (List.mem_of_getElem? (i := 71) rfl)⟩
set_option maxRecDepth 4096 in
theorem lw_p92 : lw_okq (⟨"ToldNetModel", "raise", "(I)I"⟩, 82) := ⟨lw_ne12, lw_m7 (List.mem_of_getElem? (i := 82) rfl), lw_m9 (List.mem_of_getElem? (i := 74) rfl), lw_m9 (List.mem_of_getElem? (i := 75) rfl)⟩
set_option maxRecDepth 4096 in
theorem lw_p93 : lw_okq (⟨"ToldNetModel", "exceptAt", "(II)I"⟩, 82) := ⟨lw_ne12, lw_m7 (List.mem_of_getElem? (i := 82) rfl), lw_m9 (List.mem_of_getElem? (i := 82) rfl), lw_m9 (List.mem_of_getElem? (i := 83) rfl)⟩
set_option maxRecDepth 4096 in
theorem lw_p94 : lw_okq (⟨"ToldNetModel", "builds", "(III)Z"⟩, 82) := ⟨lw_ne12, lw_m7 (List.mem_of_getElem? (i := 82) rfl), lw_m9 (List.mem_of_getElem? (i := 90) rfl), lw_m9 (List.mem_of_getElem? (i := 91) rfl)⟩
set_option maxRecDepth 4096 in
theorem lw_p95 : lw_okq (⟨"ToldNetModel", "aimAt", "(I)V"⟩, 82) := ⟨lw_ne12, lw_m7 (List.mem_of_getElem? (i := 82) rfl), lw_m9 (List.mem_of_getElem? (i := 105) rfl), lw_m9 (List.mem_of_getElem? (i := 106) rfl)⟩
def lw_privs_6 : List (MethodName × Nat) := [(⟨"ToldNetModel", "leaves", "(II)I"⟩, 82), (⟨"ToldNetModel", "part", "(I)I"⟩, 82), (⟨"ToldNetModel", "settle", "(I)V"⟩, 82), (⟨"ToldNetModel", "labelsOf", "(I)V"⟩, 82), (⟨"ToldNetModel", "moved", "(III)I"⟩, 82), (⟨"ToldNetModel", "become", "(II)V"⟩, 82), (⟨"ToldNetModel", "refine", "()I"⟩, 82), (⟨"ToldNetModel", "isLike", "(III)Z"⟩, 82), (⟨"ToldNetModel", "isTelling", "(I)Z"⟩, 82), (⟨"ToldNetModel", "isBox", "(II)Z"⟩, 82), (⟨"ToldNetModel", "seeks", "(II)Z"⟩, 82), (⟨"ToldNetModel", "meets", "(IIII)Z"⟩, 82), (⟨"ToldNetModel", "raise", "(I)I"⟩, 82), (⟨"ToldNetModel", "exceptAt", "(II)I"⟩, 82), (⟨"ToldNetModel", "builds", "(III)Z"⟩, 82), (⟨"ToldNetModel", "aimAt", "(I)V"⟩, 82)]
theorem lw_r6 : ∀ q ∈ lw_privs_6, lw_okq q := List.forall_mem_cons.mpr ⟨lw_p80, List.forall_mem_cons.mpr ⟨lw_p81, List.forall_mem_cons.mpr ⟨lw_p82, List.forall_mem_cons.mpr ⟨lw_p83, List.forall_mem_cons.mpr ⟨lw_p84, List.forall_mem_cons.mpr ⟨lw_p85, List.forall_mem_cons.mpr ⟨lw_p86, List.forall_mem_cons.mpr ⟨lw_p87, List.forall_mem_cons.mpr ⟨lw_p88, List.forall_mem_cons.mpr ⟨lw_p89, List.forall_mem_cons.mpr ⟨lw_p90, List.forall_mem_cons.mpr ⟨lw_p91, List.forall_mem_cons.mpr ⟨lw_p92, List.forall_mem_cons.mpr ⟨lw_p93, List.forall_mem_cons.mpr ⟨lw_p94, List.forall_mem_cons.mpr ⟨lw_p95, fun _ h => absurd h List.not_mem_nil⟩⟩⟩⟩⟩⟩⟩⟩⟩⟩⟩⟩⟩⟩⟩⟩
set_option maxRecDepth 4096 in
theorem lw_p96 : lw_okq (⟨"ToldNetModel", "isQuestion", "(III)Z"⟩, 82) := ⟨lw_ne12, lw_m7 (List.mem_of_getElem? (i := 82) rfl), lw_m9 (List.mem_of_getElem? (i := 125) rfl), lw_m9 (List.mem_of_getElem? (i := 126) rfl)⟩
set_option maxRecDepth 4096 in
theorem lw_p97 : lw_okq (⟨"ToldNetModel", "endOf", "(IIIIZ)I"⟩, 82) := ⟨lw_ne12, lw_m7 (List.mem_of_getElem? (i := 82) rfl), lw_m9 (List.mem_of_getElem? (i := 129) rfl), lw_m9 (List.mem_of_getElem? (i := 130) rfl)⟩
set_option maxRecDepth 4096 in
theorem lw_p98 : lw_okq (⟨"ToldNetModel", "collect", "(IIII)V"⟩, 82) := ⟨lw_ne12, lw_m7 (List.mem_of_getElem? (i := 82) rfl), lw_m9 (List.mem_of_getElem? (i := 133) rfl), lw_m9 (List.mem_of_getElem? (i := 134) rfl)⟩
set_option maxRecDepth 4096 in
theorem lw_p99 : lw_okq (⟨"ToldNetModel", "isAsked", "(IIIII)Z"⟩, 82) := ⟨lw_ne12, lw_m7 (List.mem_of_getElem? (i := 82) rfl), lw_m9 (List.mem_of_getElem? (i := 137) rfl), lw_m9 (List.mem_of_getElem? (i := 138) rfl)⟩
set_option maxRecDepth 4096 in
theorem lw_p100 : lw_okq (⟨"ToldNetModel", "sumOf", "(Z)I"⟩, 82) := ⟨lw_ne12, lw_m7 (List.mem_of_getElem? (i := 82) rfl), lw_m9 (List.mem_of_getElem? (i := 141) rfl), lw_m9 (List.mem_of_getElem? (i := 142) rfl)⟩
set_option maxRecDepth 4096 in
theorem lw_p101 : lw_okq (⟨"ToldNetModel", "links", "(IZ)V"⟩, 82) := ⟨lw_ne12, lw_m7 (List.mem_of_getElem? (i := 82) rfl), lw_m9 (List.mem_of_getElem? (i := 145) rfl), lw_m9 (List.mem_of_getElem? (i := 146) rfl)⟩
set_option maxRecDepth 4096 in
theorem lw_p102 : lw_okq (⟨"ToldNetModel", "farOf", "(II)I"⟩, 82) := ⟨lw_ne12, lw_m7 (List.mem_of_getElem? (i := 82) rfl), lw_m9 (List.mem_of_getElem? (i := 149) rfl), lw_m9 (List.mem_of_getElem? (i := 150) rfl)⟩
set_option maxRecDepth 4096 in
theorem lw_p103 : lw_okq (⟨"ToldNetModel", "pathsOf", "(II)I"⟩, 82) := ⟨lw_ne12, lw_m7 (List.mem_of_getElem? (i := 82) rfl), lw_m9 (List.mem_of_getElem? (i := 153) rfl), lw_m9 (List.mem_of_getElem? (i := 154) rfl)⟩
set_option maxRecDepth 4096 in
theorem lw_p104 : lw_okq (⟨"ToldNetModel", "triosOf", "(I)I"⟩, 82) := ⟨lw_ne12, lw_m7 (List.mem_of_getElem? (i := 82) rfl), lw_m9 (List.mem_of_getElem? (i := 157) rfl), lw_m9 (List.mem_of_getElem? (i := 158) rfl)⟩
set_option maxRecDepth 4096 in
theorem lw_p105 : lw_okq (⟨"ToldNetModel", "leadOf", "(IIIII)I"⟩, 82) := ⟨lw_ne12, lw_m7 (List.mem_of_getElem? (i := 82) rfl), lw_m9 (List.mem_of_getElem? (i := 169) rfl), lw_m9 (List.mem_of_getElem? (i := 170) rfl)⟩
set_option maxRecDepth 4096 in
theorem lw_p106 : lw_okq (⟨"ToldNetModel", "offOf", "(IIII)I"⟩, 82) := ⟨lw_ne12, lw_m7 (List.mem_of_getElem? (i := 82) rfl), lw_m9 (List.mem_of_getElem? (i := 173) rfl), lw_m9 (List.mem_of_getElem? (i := 174) rfl)⟩
set_option maxRecDepth 4096 in
theorem lw_p107 : lw_okq (⟨"ToldNetModel", "exceptsOf", "(I)I"⟩, 82) := ⟨lw_ne12, lw_m7 (List.mem_of_getElem? (i := 82) rfl), lw_m9 (List.mem_of_getElem? (i := 177) rfl), lw_m9 (List.mem_of_getElem? (i := 178) rfl)⟩
set_option maxRecDepth 4096 in
theorem lw_p108 : lw_okq (⟨"ToldNetModel", "harmOf", "(I)I"⟩, 82) := ⟨lw_ne12, lw_m7 (List.mem_of_getElem? (i := 82) rfl), lw_m9 (List.mem_of_getElem? (i := 193) rfl), lw_m9 (List.mem_of_getElem? (i := 194) rfl)⟩
set_option maxRecDepth 4096 in
theorem lw_p109 : lw_okq (⟨"ToldNetModel", "serveFew", "(III)I"⟩, 82) := ⟨lw_ne12, lw_m7 (List.mem_of_getElem? (i := 82) rfl), lw_m9 (List.mem_of_getElem? (i := 201) rfl), lw_m9 (List.mem_of_getElem? (i := 202) rfl)⟩
set_option maxRecDepth 4096 in
theorem lw_p110 : lw_okq (⟨"ToldNetModel", "tell", "(II)V"⟩, 82) := ⟨lw_ne12, lw_m7 (List.mem_of_getElem? (i := 82) rfl), lw_m9 (List.mem_of_getElem? (i := 205) rfl), lw_m9 (List.mem_of_getElem? (i := 206) rfl)⟩
set_option maxRecDepth 4096 in
theorem lw_p111 : lw_okq (⟨"ToldNetModel", "serveMany", "(III)I"⟩, 82) := ⟨lw_ne12, lw_m7 (List.mem_of_getElem? (i := 82) rfl), lw_m9 (List.mem_of_getElem? (i := 209) rfl), lw_m9 (List.mem_of_getElem? (i := 210) rfl)⟩
def lw_privs_7 : List (MethodName × Nat) := [(⟨"ToldNetModel", "isQuestion", "(III)Z"⟩, 82), (⟨"ToldNetModel", "endOf", "(IIIIZ)I"⟩, 82), (⟨"ToldNetModel", "collect", "(IIII)V"⟩, 82), (⟨"ToldNetModel", "isAsked", "(IIIII)Z"⟩, 82), (⟨"ToldNetModel", "sumOf", "(Z)I"⟩, 82), (⟨"ToldNetModel", "links", "(IZ)V"⟩, 82), (⟨"ToldNetModel", "farOf", "(II)I"⟩, 82), (⟨"ToldNetModel", "pathsOf", "(II)I"⟩, 82), (⟨"ToldNetModel", "triosOf", "(I)I"⟩, 82), (⟨"ToldNetModel", "leadOf", "(IIIII)I"⟩, 82), (⟨"ToldNetModel", "offOf", "(IIII)I"⟩, 82), (⟨"ToldNetModel", "exceptsOf", "(I)I"⟩, 82), (⟨"ToldNetModel", "harmOf", "(I)I"⟩, 82), (⟨"ToldNetModel", "serveFew", "(III)I"⟩, 82), (⟨"ToldNetModel", "tell", "(II)V"⟩, 82), (⟨"ToldNetModel", "serveMany", "(III)I"⟩, 82)]
theorem lw_r7 : ∀ q ∈ lw_privs_7, lw_okq q := List.forall_mem_cons.mpr ⟨lw_p96, List.forall_mem_cons.mpr ⟨lw_p97, List.forall_mem_cons.mpr ⟨lw_p98, List.forall_mem_cons.mpr ⟨lw_p99, List.forall_mem_cons.mpr ⟨lw_p100, List.forall_mem_cons.mpr ⟨lw_p101, List.forall_mem_cons.mpr ⟨lw_p102, List.forall_mem_cons.mpr ⟨lw_p103, List.forall_mem_cons.mpr ⟨lw_p104, List.forall_mem_cons.mpr ⟨lw_p105, List.forall_mem_cons.mpr ⟨lw_p106, List.forall_mem_cons.mpr ⟨lw_p107, List.forall_mem_cons.mpr ⟨lw_p108, List.forall_mem_cons.mpr ⟨lw_p109, List.forall_mem_cons.mpr ⟨lw_p110, List.forall_mem_cons.mpr ⟨lw_p111, fun _ h => absurd h List.not_mem_nil⟩⟩⟩⟩⟩⟩⟩⟩⟩⟩⟩⟩⟩⟩⟩⟩
set_option maxRecDepth 4096 in
theorem lw_p112 : lw_okq (⟨"ToldNetModel", "isNear", "(III)Z"⟩, 82) := ⟨lw_ne12, lw_m7 (List.mem_of_getElem? (i := 82) rfl), lw_m9 (List.mem_of_getElem? (i := 225) rfl), lw_m9 (List.mem_of_getElem? (i := 226) rfl)⟩
set_option maxRecDepth 4096 in
theorem lw_p113 : lw_okq (⟨"ToldNetModel", "wordsOf", "(I)I"⟩, 82) := ⟨lw_ne12, lw_m7 (List.mem_of_getElem? (i := 82) rfl), lw_m9 (List.mem_of_getElem? (i := 237) rfl), lw_m9 (List.mem_of_getElem? (i := 238) rfl)⟩
set_option maxRecDepth 4096 in
theorem lw_p114 : lw_okq (⟨"ToldNetModel", "hasWord", "(II)Z"⟩, 82) := ⟨lw_ne12, lw_m7 (List.mem_of_getElem? (i := 82) rfl), lw_m10 (List.mem_of_getElem? (i := 1) rfl), lw_m10 (List.mem_of_getElem? (i := 2) rfl)⟩
set_option maxRecDepth 4096 in
theorem lw_p115 : lw_okq (⟨"ToldNetModel", "boxAlike", "(III)I"⟩, 82) := ⟨lw_ne12, lw_m7 (List.mem_of_getElem? (i := 82) rfl), lw_m10 (List.mem_of_getElem? (i := 5) rfl), lw_m10 (List.mem_of_getElem? (i := 6) rfl)⟩
set_option maxRecDepth 4096 in
theorem lw_p116 : lw_okq (⟨"ToldNetModel", "maskOf", "(II)I"⟩, 82) := ⟨lw_ne12, lw_m7 (List.mem_of_getElem? (i := 82) rfl), lw_m10 (List.mem_of_getElem? (i := 9) rfl), lw_m10 (List.mem_of_getElem? (i := 10) rfl)⟩
set_option maxRecDepth 4096 in
theorem lw_p117 : lw_okq (⟨"ToldNetModel", "isRowAlike", "(IIII)Z"⟩, 82) := ⟨lw_ne12, lw_m7 (List.mem_of_getElem? (i := 82) rfl), lw_m10 (List.mem_of_getElem? (i := 13) rfl), lw_m10 (List.mem_of_getElem? (i := 14) rfl)⟩
set_option maxRecDepth 4096 in
theorem lw_p118 : lw_okq (⟨"ToldNetModel", "lineOf", "(I)I"⟩, 82) := ⟨lw_ne12, lw_m7 (List.mem_of_getElem? (i := 82) rfl), lw_m10 (List.mem_of_getElem? (i := 21) rfl), lw_m10 (List.mem_of_getElem? (i := 22) rfl)⟩
set_option maxRecDepth 4096 in
theorem lw_p119 : lw_okq (⟨"ToldNetModel", "tiesOfBoxes", "(I)V"⟩, 82) := ⟨lw_ne12, lw_m7 (List.mem_of_getElem? (i := 82) rfl), lw_m10 (List.mem_of_getElem? (i := 25) rfl), lw_m10 (List.mem_of_getElem? (i := 26) rfl)⟩
set_option maxRecDepth 4096 in
theorem lw_p120 : lw_okq (⟨"ToldNetModel", "stretch", "(I)I"⟩, 82) := ⟨lw_ne12, lw_m7 (List.mem_of_getElem? (i := 82) rfl), lw_m10 (List.mem_of_getElem? (i := 29) rfl), lw_m10 (List.mem_of_getElem? (i := 30) rfl)⟩
set_option maxRecDepth 4096 in
theorem lw_p121 : lw_okq (⟨"ToldNetModel", "reorders", "(I)Z"⟩, 82) := ⟨lw_ne12, lw_m7 (List.mem_of_getElem? (i := 82) rfl), lw_m10 (List.mem_of_getElem? (i := 33) rfl), lw_m10 (List.mem_of_getElem? (i := 34) rfl)⟩
set_option maxRecDepth 4096 in
theorem lw_p122 : lw_okq (⟨"ToldNetModel", "speaks", "(II)I"⟩, 82) := ⟨lw_ne12, lw_m7 (List.mem_of_getElem? (i := 82) rfl), lw_m10 (List.mem_of_getElem? (i := 45) rfl), lw_m10 (List.mem_of_getElem? (i := 46) rfl)⟩
set_option maxRecDepth 4096 in
theorem lw_p123 : lw_okq (⟨"ToldNetModel", "spareOf", "(I)I"⟩, 82) := ⟨lw_ne12, lw_m7 (List.mem_of_getElem? (i := 82) rfl), lw_m10 (List.mem_of_getElem? (i := 49) rfl), lw_m10 (List.mem_of_getElem? (i := 50) rfl)⟩
set_option maxRecDepth 4096 in
theorem lw_p124 : lw_okq (⟨"ToldNetModel", "isOfWord", "(III)Z"⟩, 82) := ⟨lw_ne12, lw_m7 (List.mem_of_getElem? (i := 82) rfl), lw_m10 (List.mem_of_getElem? (i := 53) rfl), lw_m10 (List.mem_of_getElem? (i := 54) rfl)⟩
set_option maxRecDepth 4096 in
theorem lw_p125 : lw_okq (⟨"ToldNetModel", "shuffle", "(I)V"⟩, 82) := ⟨lw_ne12, lw_m7 (List.mem_of_getElem? (i := 82) rfl), lw_m10 (List.mem_of_getElem? (i := 66) rfl), lw_m10 (List.mem_of_getElem? (i := 67) rfl)⟩
set_option maxRecDepth 4096 in
theorem lw_p126 : lw_okq (⟨"ToldNetModel", "tiesOfGoal", "()I"⟩, 82) := ⟨lw_ne12, lw_m7 (List.mem_of_getElem? (i := 82) rfl), lw_m10 (List.mem_of_getElem? (i := 70) rfl), lw_m10 (List.mem_of_getElem? (i := 71) rfl)⟩
set_option maxRecDepth 4096 in
theorem lw_p127 : lw_okq (⟨"ToldNetModel", "tieAt", "(I)I"⟩, 82) := ⟨lw_ne12, lw_m7 (List.mem_of_getElem? (i := 82) rfl), lw_m10 (List.mem_of_getElem? (i := 81) rfl), lw_m10 (List.mem_of_getElem? (i := 82) rfl)⟩
def lw_privs_8 : List (MethodName × Nat) := [(⟨"ToldNetModel", "isNear", "(III)Z"⟩, 82), (⟨"ToldNetModel", "wordsOf", "(I)I"⟩, 82), (⟨"ToldNetModel", "hasWord", "(II)Z"⟩, 82), (⟨"ToldNetModel", "boxAlike", "(III)I"⟩, 82), (⟨"ToldNetModel", "maskOf", "(II)I"⟩, 82), (⟨"ToldNetModel", "isRowAlike", "(IIII)Z"⟩, 82), (⟨"ToldNetModel", "lineOf", "(I)I"⟩, 82), (⟨"ToldNetModel", "tiesOfBoxes", "(I)V"⟩, 82), (⟨"ToldNetModel", "stretch", "(I)I"⟩, 82), (⟨"ToldNetModel", "reorders", "(I)Z"⟩, 82), (⟨"ToldNetModel", "speaks", "(II)I"⟩, 82), (⟨"ToldNetModel", "spareOf", "(I)I"⟩, 82), (⟨"ToldNetModel", "isOfWord", "(III)Z"⟩, 82), (⟨"ToldNetModel", "shuffle", "(I)V"⟩, 82), (⟨"ToldNetModel", "tiesOfGoal", "()I"⟩, 82), (⟨"ToldNetModel", "tieAt", "(I)I"⟩, 82)]
theorem lw_r8 : ∀ q ∈ lw_privs_8, lw_okq q := List.forall_mem_cons.mpr ⟨lw_p112, List.forall_mem_cons.mpr ⟨lw_p113, List.forall_mem_cons.mpr ⟨lw_p114, List.forall_mem_cons.mpr ⟨lw_p115, List.forall_mem_cons.mpr ⟨lw_p116, List.forall_mem_cons.mpr ⟨lw_p117, List.forall_mem_cons.mpr ⟨lw_p118, List.forall_mem_cons.mpr ⟨lw_p119, List.forall_mem_cons.mpr ⟨lw_p120, List.forall_mem_cons.mpr ⟨lw_p121, List.forall_mem_cons.mpr ⟨lw_p122, List.forall_mem_cons.mpr ⟨lw_p123, List.forall_mem_cons.mpr ⟨lw_p124, List.forall_mem_cons.mpr ⟨lw_p125, List.forall_mem_cons.mpr ⟨lw_p126, List.forall_mem_cons.mpr ⟨lw_p127, fun _ h => absurd h List.not_mem_nil⟩⟩⟩⟩⟩⟩⟩⟩⟩⟩⟩⟩⟩⟩⟩⟩
set_option maxRecDepth 4096 in
theorem lw_p128 : lw_okq (⟨"ToldNetModel", "link", "(IIZ)V"⟩, 82) := ⟨lw_ne12, lw_m7 (List.mem_of_getElem? (i := 82) rfl), lw_m10 (List.mem_of_getElem? (i := 85) rfl), lw_m10 (List.mem_of_getElem? (i := 86) rfl)⟩
set_option maxRecDepth 4096 in
theorem lw_p129 : lw_okq (⟨"ToldNetModel", "lengthOfBoxes", "(I)I"⟩, 82) := ⟨lw_ne12, lw_m7 (List.mem_of_getElem? (i := 82) rfl), lw_m10 (List.mem_of_getElem? (i := 93) rfl), lw_m10 (List.mem_of_getElem? (i := 94) rfl)⟩
set_option maxRecDepth 4096 in
theorem lw_p130 : lw_okq (⟨"ToldNetModel", "scanAll", "()V"⟩, 82) := ⟨lw_ne12, lw_m7 (List.mem_of_getElem? (i := 82) rfl), lw_m10 (List.mem_of_getElem? (i := 101) rfl), lw_m10 (List.mem_of_getElem? (i := 102) rfl)⟩
set_option maxRecDepth 4096 in
theorem lw_p131 : lw_okq (⟨"ToldNetModel", "byteAt", "(I)I"⟩, 82) := ⟨lw_ne12, lw_m7 (List.mem_of_getElem? (i := 82) rfl), lw_m10 (List.mem_of_getElem? (i := 105) rfl), lw_m10 (List.mem_of_getElem? (i := 106) rfl)⟩
set_option maxRecDepth 4096 in
theorem lw_p132 : lw_okq (⟨"ToldNetModel", "scan", "(I)I"⟩, 82) := ⟨lw_ne12, lw_m7 (List.mem_of_getElem? (i := 82) rfl), lw_m10 (List.mem_of_getElem? (i := 109) rfl), lw_m10 (List.mem_of_getElem? (i := 110) rfl)⟩
set_option maxRecDepth 4096 in
theorem lw_p133 : lw_okq (⟨"ToldNetModel", "isLetter", "(I)Z"⟩, 82) := ⟨lw_ne12, lw_m7 (List.mem_of_getElem? (i := 82) rfl), lw_m10 (List.mem_of_getElem? (i := 113) rfl), lw_m10 (List.mem_of_getElem? (i := 114) rfl)⟩
set_option maxRecDepth 4096 in
theorem lw_p134 : lw_okq (⟨"ToldNetModel", "token", "(IIII)V"⟩, 82) := ⟨lw_ne12, lw_m7 (List.mem_of_getElem? (i := 82) rfl), lw_m10 (List.mem_of_getElem? (i := 129) rfl), lw_m10 (List.mem_of_getElem? (i := 130) rfl)⟩
set_option maxRecDepth 4096 in
theorem lw_p135 : lw_okq (⟨"ToldNetModel", "isDigit", "(I)Z"⟩, 82) := ⟨lw_ne12, lw_m7 (List.mem_of_getElem? (i := 82) rfl), lw_m10 (List.mem_of_getElem? (i := 133) rfl), lw_m10 (List.mem_of_getElem? (i := 134) rfl)⟩
set_option maxRecDepth 4096 in
theorem lw_p136 : lw_okq (⟨"ToldNetModel", "parses", "()Z"⟩, 82) := ⟨lw_ne12, lw_m7 (List.mem_of_getElem? (i := 82) rfl), lw_m10 (List.mem_of_getElem? (i := 137) rfl), lw_m10 (List.mem_of_getElem? (i := 138) rfl)⟩
set_option maxRecDepth 4096 in
theorem lw_p137 : lw_okq (⟨"ToldNetModel", "wrong", "(I)Z"⟩, 82) := ⟨lw_ne12, lw_m7 (List.mem_of_getElem? (i := 82) rfl), lw_m10 (List.mem_of_getElem? (i := 141) rfl), lw_m10 (List.mem_of_getElem? (i := 142) rfl)⟩
set_option maxRecDepth 4096 in
theorem lw_p138 : lw_okq (⟨"ToldNetModel", "goesThrough", "()Z"⟩, 82) := ⟨lw_ne12, lw_m7 (List.mem_of_getElem? (i := 82) rfl), lw_m10 (List.mem_of_getElem? (i := 145) rfl), lw_m10 (List.mem_of_getElem? (i := 146) rfl)⟩
set_option maxRecDepth 4096 in
theorem lw_p139 : lw_okq (⟨"ToldNetModel", "takes", "(I)Z"⟩, 82) := ⟨lw_ne12, lw_m7 (List.mem_of_getElem? (i := 82) rfl), lw_m10 (List.mem_of_getElem? (i := 149) rfl), lw_m10 (List.mem_of_getElem? (i := 150) rfl)⟩
set_option maxRecDepth 4096 in
theorem lw_p140 : lw_okq (⟨"ToldNetModel", "takesTwo", "(II)Z"⟩, 82) := ⟨lw_ne12, lw_m7 (List.mem_of_getElem? (i := 82) rfl), lw_m10 (List.mem_of_getElem? (i := 153) rfl), lw_m10 (List.mem_of_getElem? (i := 154) rfl)⟩
set_option maxRecDepth 4096 in
theorem lw_p141 : lw_okq (⟨"ToldNetModel", "tellAll", "()V"⟩, 82) := ⟨lw_ne12, lw_m7 (List.mem_of_getElem? (i := 82) rfl), lw_m10 (List.mem_of_getElem? (i := 157) rfl), lw_m10 (List.mem_of_getElem? (i := 158) rfl)⟩
set_option maxRecDepth 4096 in
theorem lw_p142 : lw_okq (⟨"ToldNetModel", "tellBox", "()V"⟩, 82) := ⟨lw_ne12, lw_m7 (List.mem_of_getElem? (i := 82) rfl), lw_m10 (List.mem_of_getElem? (i := 161) rfl), lw_m10 (List.mem_of_getElem? (i := 162) rfl)⟩
set_option maxRecDepth 4096 in
theorem lw_p143 : lw_okq (⟨"ToldNetModel", "textBox", "(I)I"⟩, 82) := ⟨lw_ne12, lw_m7 (List.mem_of_getElem? (i := 82) rfl), lw_m10 (List.mem_of_getElem? (i := 165) rfl), lw_m10 (List.mem_of_getElem? (i := 166) rfl)⟩
def lw_privs_9 : List (MethodName × Nat) := [(⟨"ToldNetModel", "link", "(IIZ)V"⟩, 82), (⟨"ToldNetModel", "lengthOfBoxes", "(I)I"⟩, 82), (⟨"ToldNetModel", "scanAll", "()V"⟩, 82), (⟨"ToldNetModel", "byteAt", "(I)I"⟩, 82), (⟨"ToldNetModel", "scan", "(I)I"⟩, 82), (⟨"ToldNetModel", "isLetter", "(I)Z"⟩, 82), (⟨"ToldNetModel", "token", "(IIII)V"⟩, 82), (⟨"ToldNetModel", "isDigit", "(I)Z"⟩, 82), (⟨"ToldNetModel", "parses", "()Z"⟩, 82), (⟨"ToldNetModel", "wrong", "(I)Z"⟩, 82), (⟨"ToldNetModel", "goesThrough", "()Z"⟩, 82), (⟨"ToldNetModel", "takes", "(I)Z"⟩, 82), (⟨"ToldNetModel", "takesTwo", "(II)Z"⟩, 82), (⟨"ToldNetModel", "tellAll", "()V"⟩, 82), (⟨"ToldNetModel", "tellBox", "()V"⟩, 82), (⟨"ToldNetModel", "textBox", "(I)I"⟩, 82)]
theorem lw_r9 : ∀ q ∈ lw_privs_9, lw_okq q := List.forall_mem_cons.mpr ⟨lw_p128, List.forall_mem_cons.mpr ⟨lw_p129, List.forall_mem_cons.mpr ⟨lw_p130, List.forall_mem_cons.mpr ⟨lw_p131, List.forall_mem_cons.mpr ⟨lw_p132, List.forall_mem_cons.mpr ⟨lw_p133, List.forall_mem_cons.mpr ⟨lw_p134, List.forall_mem_cons.mpr ⟨lw_p135, List.forall_mem_cons.mpr ⟨lw_p136, List.forall_mem_cons.mpr ⟨lw_p137, List.forall_mem_cons.mpr ⟨lw_p138, List.forall_mem_cons.mpr ⟨lw_p139, List.forall_mem_cons.mpr ⟨lw_p140, List.forall_mem_cons.mpr ⟨lw_p141, List.forall_mem_cons.mpr ⟨lw_p142, List.forall_mem_cons.mpr ⟨lw_p143, fun _ h => absurd h List.not_mem_nil⟩⟩⟩⟩⟩⟩⟩⟩⟩⟩⟩⟩⟩⟩⟩⟩
set_option maxRecDepth 4096 in
theorem lw_p144 : lw_okq (⟨"ToldNetModel", "tells", "(II)V"⟩, 82) := ⟨lw_ne12, lw_m7 (List.mem_of_getElem? (i := 82) rfl), lw_m10 (List.mem_of_getElem? (i := 169) rfl), lw_m10 (List.mem_of_getElem? (i := 170) rfl)⟩
set_option maxRecDepth 4096 in
theorem lw_p145 : lw_okq (⟨"ToldNetModel", "isKnownPost", "(I)Z"⟩, 82) := ⟨lw_ne12, lw_m7 (List.mem_of_getElem? (i := 82) rfl), lw_m10 (List.mem_of_getElem? (i := 173) rfl), lw_m10 (List.mem_of_getElem? (i := 174) rfl)⟩
set_option maxRecDepth 4096 in
theorem lw_p146 : lw_okq (⟨"ToldNetModel", "tellOne", "(I)V"⟩, 82) := ⟨lw_ne12, lw_m7 (List.mem_of_getElem? (i := 82) rfl), lw_m10 (List.mem_of_getElem? (i := 177) rfl), lw_m10 (List.mem_of_getElem? (i := 178) rfl)⟩
set_option maxRecDepth 4096 in
theorem lw_p147 : lw_okq (⟨"ToldNetModel", "knownBox", "(I)I"⟩, 82) := ⟨lw_ne12, lw_m7 (List.mem_of_getElem? (i := 82) rfl), lw_m10 (List.mem_of_getElem? (i := 181) rfl), lw_m10 (List.mem_of_getElem? (i := 182) rfl)⟩
set_option maxRecDepth 4096 in
theorem lw_p148 : lw_okq (⟨"ToldNetModel", "tellWord", "(IIII)V"⟩, 82) := ⟨lw_ne12, lw_m7 (List.mem_of_getElem? (i := 82) rfl), lw_m10 (List.mem_of_getElem? (i := 185) rfl), lw_m10 (List.mem_of_getElem? (i := 186) rfl)⟩
set_option maxRecDepth 4096 in
theorem lw_p149 : lw_okq (⟨"ToldNetModel", "tellSides", "()V"⟩, 82) := ⟨lw_ne12, lw_m7 (List.mem_of_getElem? (i := 82) rfl), lw_m10 (List.mem_of_getElem? (i := 189) rfl), lw_m10 (List.mem_of_getElem? (i := 190) rfl)⟩
set_option maxRecDepth 4096 in
theorem lw_p150 : lw_okq (⟨"ToldNetModel", "tellStar", "()V"⟩, 82) := ⟨lw_ne12, lw_m7 (List.mem_of_getElem? (i := 82) rfl), lw_m10 (List.mem_of_getElem? (i := 193) rfl), lw_m10 (List.mem_of_getElem? (i := 194) rfl)⟩
set_option maxRecDepth 4096 in
theorem lw_p151 : lw_okq (⟨"ToldNetModel", "tellPair", "(Z)V"⟩, 82) := ⟨lw_ne12, lw_m7 (List.mem_of_getElem? (i := 82) rfl), lw_m10 (List.mem_of_getElem? (i := 197) rfl), lw_m10 (List.mem_of_getElem? (i := 198) rfl)⟩
set_option maxRecDepth 4096 in
theorem lw_p152 : lw_okq (⟨"ToldNetModel", "isSomeSaid", "(II)Z"⟩, 82) := ⟨lw_ne12, lw_m7 (List.mem_of_getElem? (i := 82) rfl), lw_m10 (List.mem_of_getElem? (i := 201) rfl), lw_m10 (List.mem_of_getElem? (i := 202) rfl)⟩
set_option maxRecDepth 4096 in
theorem lw_p153 : lw_okq (⟨"ToldNetModel", "isTextSaid", "(III)Z"⟩, 82) := ⟨lw_ne12, lw_m7 (List.mem_of_getElem? (i := 82) rfl), lw_m10 (List.mem_of_getElem? (i := 205) rfl), lw_m10 (List.mem_of_getElem? (i := 206) rfl)⟩
set_option maxRecDepth 4096 in
theorem lw_p154 : lw_okq (⟨"ToldNetModel", "build", "(I)V"⟩, 82) := ⟨lw_ne12, lw_m7 (List.mem_of_getElem? (i := 82) rfl), lw_m10 (List.mem_of_getElem? (i := 209) rfl), lw_m10 (List.mem_of_getElem? (i := 210) rfl)⟩
set_option maxRecDepth 4096 in
theorem lw_p155 : lw_okq (⟨"ToldNetModel", "countOf", "(I)I"⟩, 82) := ⟨lw_ne12, lw_m7 (List.mem_of_getElem? (i := 82) rfl), lw_m10 (List.mem_of_getElem? (i := 221) rfl), lw_m10 (List.mem_of_getElem? (i := 222) rfl)⟩
def lw_privs_10 : List (MethodName × Nat) := [(⟨"ToldNetModel", "tells", "(II)V"⟩, 82), (⟨"ToldNetModel", "isKnownPost", "(I)Z"⟩, 82), (⟨"ToldNetModel", "tellOne", "(I)V"⟩, 82), (⟨"ToldNetModel", "knownBox", "(I)I"⟩, 82), (⟨"ToldNetModel", "tellWord", "(IIII)V"⟩, 82), (⟨"ToldNetModel", "tellSides", "()V"⟩, 82), (⟨"ToldNetModel", "tellStar", "()V"⟩, 82), (⟨"ToldNetModel", "tellPair", "(Z)V"⟩, 82), (⟨"ToldNetModel", "isSomeSaid", "(II)Z"⟩, 82), (⟨"ToldNetModel", "isTextSaid", "(III)Z"⟩, 82), (⟨"ToldNetModel", "build", "(I)V"⟩, 82), (⟨"ToldNetModel", "countOf", "(I)I"⟩, 82)]
theorem lw_r10 : ∀ q ∈ lw_privs_10, lw_okq q := List.forall_mem_cons.mpr ⟨lw_p144, List.forall_mem_cons.mpr ⟨lw_p145, List.forall_mem_cons.mpr ⟨lw_p146, List.forall_mem_cons.mpr ⟨lw_p147, List.forall_mem_cons.mpr ⟨lw_p148, List.forall_mem_cons.mpr ⟨lw_p149, List.forall_mem_cons.mpr ⟨lw_p150, List.forall_mem_cons.mpr ⟨lw_p151, List.forall_mem_cons.mpr ⟨lw_p152, List.forall_mem_cons.mpr ⟨lw_p153, List.forall_mem_cons.mpr ⟨lw_p154, List.forall_mem_cons.mpr ⟨lw_p155, fun _ h => absurd h List.not_mem_nil⟩⟩⟩⟩⟩⟩⟩⟩⟩⟩⟩⟩
def lw_privs : List (MethodName × Nat) := lw_privs_1 ++ (lw_privs_2 ++ (lw_privs_3 ++ (lw_privs_4 ++ (lw_privs_5 ++ (lw_privs_6 ++ (lw_privs_7 ++ (lw_privs_8 ++ (lw_privs_9 ++ (lw_privs_10)))))))))
def lw_tbl : List Cond := k2_sels lw_privs ++ tables_1
theorem lw_privs_ok : ∀ q ∈ lw_privs, lw_okq q := by
  show ∀ q ∈ lw_privs_1 ++ (lw_privs_2 ++ (lw_privs_3 ++ (lw_privs_4 ++ (lw_privs_5 ++ (lw_privs_6 ++ (lw_privs_7 ++ (lw_privs_8 ++ (lw_privs_9 ++ (lw_privs_10))))))))), lw_okq q
  exact List.forall_mem_append.mpr ⟨lw_r1, List.forall_mem_append.mpr ⟨lw_r2, List.forall_mem_append.mpr ⟨lw_r3, List.forall_mem_append.mpr ⟨lw_r4, List.forall_mem_append.mpr ⟨lw_r5, List.forall_mem_append.mpr ⟨lw_r6, List.forall_mem_append.mpr ⟨lw_r7, List.forall_mem_append.mpr ⟨lw_r8, List.forall_mem_append.mpr ⟨lw_r9, lw_r10⟩⟩⟩⟩⟩⟩⟩⟩⟩
end
section
-- part 01b.names.lean.txt
/-! ===== names: methods, classes, pools (by a program of mine out of JAVAP.txt and the words) ===== -/
abbrev zMR : Type := MethodName × ByteArray × Nat × Option FieldType × Nat × Nat
abbrev zMI : Type := Nat × Nat × Nat × Nat
def F_Integer_bitCount : zMR := (⟨"java/lang/Integer", "bitCount", "(I)I"⟩, prog_20_method_49_code, 1, (some .int), 0, 0)
def F_Arrays_fill : zMR := (⟨"java/util/Arrays", "fill", "([II)V"⟩, prog_30_method_103_code, 4, none, 0, 0)
def F_ToldNet_init : zMR := (⟨"ToldNet", "<init>", "()V"⟩, prog_1_method_1_code, 2, none, 6, 128)
def F_ToldNet_feed : zMR := (⟨"ToldNet", "feed", "(IIIII)I"⟩, prog_1_method_2_code, 6, (some .int), 1, 22)
def F_ToldNet_back : zMR := (⟨"ToldNet", "back", "(I)I"⟩, prog_1_method_3_code, 2, (some .int), 0, 0)
def F_ToldNet_net : zMR := (⟨"ToldNet", "net", "(I)Z"⟩, prog_1_method_4_code, 2, (some .boolean), 3, 65)
def F_ToldNet_tie : zMR := (⟨"ToldNet", "tie", "(IIZ)I"⟩, prog_1_method_5_code, 4, (some .int), 2, 43)
def F_ToldNet_tomorrow : zMR := (⟨"ToldNet", "tomorrow", "()I"⟩, prog_1_method_6_code, 1, (some .int), 3, 67)
def F_ToldNet_mark : zMR := (⟨"ToldNet", "mark", "(II)Z"⟩, prog_1_method_7_code, 3, (some .boolean), 1, 21)
def F_ToldNet_ties : zMR := (⟨"ToldNet", "ties", "(II)I"⟩, prog_1_method_8_code, 4, (some .int), 1, 21)
def F_ToldNet_tied : zMR := (⟨"ToldNet", "tied", "(III)I"⟩, prog_1_method_9_code, 5, (some .int), 2, 43)
def F_ToldNet_read : zMR := (⟨"ToldNet", "read", "()I"⟩, prog_1_method_10_code, 2, (some .int), 5, 116)
def F_ToldNet_place : zMR := (⟨"ToldNet", "place", "()I"⟩, prog_1_method_11_code, 1, (some .int), 0, 0)
def F_ToldNet_make : zMR := (⟨"ToldNet", "make", "(I)I"⟩, prog_1_method_12_code, 3, (some .int), 6, 149)
def F_ToldNet_copy : zMR := (⟨"ToldNet", "copy", "(I)I"⟩, prog_1_method_13_code, 3, (some .int), 3, 68)
def F_ToldNet_drop : zMR := (⟨"ToldNet", "drop", "()I"⟩, prog_1_method_14_code, 1, (some .int), 0, 0)
def F_ToldNet_length : zMR := (⟨"ToldNet", "length", "(I)I"⟩, prog_1_method_15_code, 3, (some .int), 5, 117)
def F_ToldNet_box : zMR := (⟨"ToldNet", "box", "(II)I"⟩, prog_1_method_16_code, 4, (some .int), 1, 21)
def F_ToldNet_row : zMR := (⟨"ToldNet", "row", "(III)I"⟩, prog_1_method_17_code, 5, (some .int), 2, 43)
def F_ToldNet_word : zMR := (⟨"ToldNet", "word", "(III)I"⟩, prog_1_method_18_code, 7, (some .int), 7, 104)
def F_ToldNet_except : zMR := (⟨"ToldNet", "except", "(III)I"⟩, prog_1_method_19_code, 8, (some .int), 7, 104)
def F_ToldNet_built : zMR := (⟨"ToldNet", "built", "(III)I"⟩, prog_1_method_20_code, 5, (some .int), 2, 43)
def F_ToldNet_unlike : zMR := (⟨"ToldNet", "unlike", "(II)I"⟩, prog_1_method_21_code, 5, (some .int), 2, 44)
def F_ToldNet_together : zMR := (⟨"ToldNet", "together", "(III)I"⟩, prog_1_method_22_code, 5, (some .int), 4, 97)
def F_ToldNet_apart : zMR := (⟨"ToldNet", "apart", "(II)I"⟩, prog_1_method_23_code, 4, (some .int), 4, 97)
def F_ToldNet_bound : zMR := (⟨"ToldNet", "bound", "()I"⟩, prog_1_method_24_code, 1, (some .int), 5, 121)
def F_ToldNet_bests : zMR := (⟨"ToldNet", "bests", "()I"⟩, prog_1_method_25_code, 1, (some .int), 5, 123)
def F_ToldNet_leave : zMR := (⟨"ToldNet", "leave", "(IIZ)Z"⟩, prog_1_method_26_code, 6, (some .boolean), 4, 88)
def F_ToldNet_sort : zMR := (⟨"ToldNet", "sort", "(IIIZI)I"⟩, prog_1_method_27_code, 8, (some .int), 4, 96)
def F_ToldNet_ask : zMR := (⟨"ToldNet", "ask", "(IIIIZ)I"⟩, prog_1_method_28_code, 7, (some .int), 4, 107)
def F_ToldNet_mean : zMR := (⟨"ToldNet", "mean", "(IIII)I"⟩, prog_1_method_29_code, 6, (some .int), 4, 107)
def F_ToldNet_leads : zMR := (⟨"ToldNet", "leads", "(IIII)I"⟩, prog_1_method_30_code, 6, (some .int), 6, 159)
def F_ToldNet_led : zMR := (⟨"ToldNet", "led", "(IIIII)I"⟩, prog_1_method_31_code, 7, (some .int), 6, 159)
def F_ToldNet_reader : zMR := (⟨"ToldNet", "reader", "(IIII)I"⟩, prog_1_method_32_code, 5, (some .int), 3, 66)
def F_ToldNet_harm : zMR := (⟨"ToldNet", "harm", "(I)I"⟩, prog_1_method_33_code, 3, (some .int), 6, 155)
def F_ToldNet_serve : zMR := (⟨"ToldNet", "serve", "(II)I"⟩, prog_1_method_34_code, 4, (some .int), 7, 184)
def F_ToldNet_rounds : zMR := (⟨"ToldNet", "rounds", "()I"⟩, prog_1_method_35_code, 1, (some .int), 4, 94)
def F_ToldNet_coarsest : zMR := (⟨"ToldNet", "coarsest", "(I)I"⟩, prog_1_method_36_code, 2, (some .int), 4, 94)
def F_ToldNet_nearly : zMR := (⟨"ToldNet", "nearly", "(II)I"⟩, prog_1_method_37_code, 3, (some .int), 3, 72)
def F_ToldNet_mend : zMR := (⟨"ToldNet", "mend", "(I)I"⟩, prog_1_method_38_code, 5, (some .int), 6, 149)
def F_ToldNet_broken : zMR := (⟨"ToldNet", "broken", "(II)I"⟩, prog_1_method_39_code, 5, (some .int), 6, 145)
def F_ToldNet_line : zMR := (⟨"ToldNet", "line", "(I)I"⟩, prog_1_method_40_code, 3, (some .int), 3, 70)
def F_ToldNet_at : zMR := (⟨"ToldNet", "at", "(II)I"⟩, prog_1_method_41_code, 4, (some .int), 4, 94)
def F_ToldNet_sentence : zMR := (⟨"ToldNet", "sentence", "(II)I"⟩, prog_1_method_42_code, 4, (some .int), 5, 116)
def F_ToldNet_spares : zMR := (⟨"ToldNet", "spares", "(II)I"⟩, prog_1_method_43_code, 4, (some .int), 5, 116)
def F_ToldNet_compare : zMR := (⟨"ToldNet", "compare", "(III)I"⟩, prog_1_method_44_code, 7, (some .int), 2, 43)
def F_ToldNet_odds : zMR := (⟨"ToldNet", "odds", "(III)I"⟩, prog_1_method_45_code, 8, (some .int), 5, 118)
def F_ToldNet_chance : zMR := (⟨"ToldNet", "chance", "(III)I"⟩, prog_1_method_46_code, 4, (some .int), 5, 118)
def F_ToldNet_count : zMR := (⟨"ToldNet", "count", "(I)I"⟩, prog_1_method_47_code, 2, (some .int), 3, 64)
def F_ToldNet_countIn : zMR := (⟨"ToldNet", "countIn", "(I)I"⟩, prog_1_method_48_code, 3, (some .int), 2, 42)
def F_ToldNet_find : zMR := (⟨"ToldNet", "find", "(I)LToldNet$Telling;"⟩, prog_1_method_49_code, 2, (some (.object "ToldNet$Telling")), 0, 0)
def F_ToldNet_bits : zMR := (⟨"ToldNet", "bits", "(I)I"⟩, prog_1_method_50_code, 2, (some .int), 0, 0)
def F_ToldNet_exceptBits : zMR := (⟨"ToldNet", "exceptBits", "(I)I"⟩, prog_1_method_51_code, 1, (some .int), 1, 21)
def F_ToldNet_leastOf : zMR := (⟨"ToldNet", "leastOf", "(I)I"⟩, prog_1_method_52_code, 1, (some .int), 1, 20)
def F_Days_init : zMR := (⟨"ToldNet$Days", "<init>", "()V"⟩, prog_2_method_1_code, 2, none, 3, 65)
def F_Days_begin : zMR := (⟨"ToldNet$Days", "begin", "(I)V"⟩, prog_2_method_2_code, 2, none, 2, 44)
def F_Days_goOn : zMR := (⟨"ToldNet$Days", "goOn", "()V"⟩, prog_2_method_3_code, 1, none, 2, 47)
def F_Days_now : zMR := (⟨"ToldNet$Days", "now", "()LToldNet$Net;"⟩, prog_2_method_4_code, 1, (some (.object "ToldNet$Net")), 0, 0)
def F_Days_on : zMR := (⟨"ToldNet$Days", "on", "(I)LToldNet$Net;"⟩, prog_2_method_5_code, 2, (some (.object "ToldNet$Net")), 0, 0)
def F_Days_isPost : zMR := (⟨"ToldNet$Days", "isPost", "(I)Z"⟩, prog_2_method_6_code, 2, (some .boolean), 0, 0)
def F_Days_isPair : zMR := (⟨"ToldNet$Days", "isPair", "(II)Z"⟩, prog_2_method_7_code, 3, (some .boolean), 1, 21)
def F_Days_isQuestion : zMR := (⟨"ToldNet$Days", "isQuestion", "(III)Z"⟩, prog_2_method_8_code, 4, (some .boolean), 2, 43)
def F_Net_init : zMR := (⟨"ToldNet$Net", "<init>", "()V"⟩, prog_3_method_1_code, 1, none, 1, 12)
def F_Net_clear : zMR := (⟨"ToldNet$Net", "clear", "(I)V"⟩, prog_3_method_2_code, 2, none, 1, 23)
def F_Net_become : zMR := (⟨"ToldNet$Net", "become", "(LToldNet$Net;)V"⟩, prog_3_method_3_code, 2, none, 1, 26)
def F_Net_differ : zMR := (⟨"ToldNet$Net", "differ", "(LToldNet$Net;LToldNet$Net;)V"⟩, prog_3_method_4_code, 4, none, 0, 0)
def F_Net_joins : zMR := (⟨"ToldNet$Net", "joins", "(II)Z"⟩, prog_3_method_5_code, 3, (some .boolean), 0, 0)
def F_Net_flip : zMR := (⟨"ToldNet$Net", "flip", "(II)V"⟩, prog_3_method_6_code, 3, none, 0, 0)
def F_Net_cross : zMR := (⟨"ToldNet$Net", "cross", "(II)V"⟩, prog_3_method_7_code, 5, none, 0, 0)
def F_Net_chain : zMR := (⟨"ToldNet$Net", "chain", "([III)V"⟩, prog_3_method_8_code, 7, none, 0, 0)
def F_Net_pairs : zMR := (⟨"ToldNet$Net", "pairs", "()I"⟩, prog_3_method_9_code, 3, (some .int), 1, 20)
def F_Net_pairsIn : zMR := (⟨"ToldNet$Net", "pairsIn", "(LToldNet$Net;)I"⟩, prog_3_method_10_code, 4, (some .int), 1, 20)
def F_Net_pairAt : zMR := (⟨"ToldNet$Net", "pairAt", "(I)I"⟩, prog_3_method_11_code, 6, (some .int), 3, 63)
def F_Net_bitAt : zMR := (⟨"ToldNet$Net", "bitAt", "(II)I"⟩, prog_3_method_12_code, 4, (some .int), 2, 40)
def F_Net_lesserOf : zMR := (⟨"ToldNet$Net", "lesserOf", "(I)I"⟩, prog_3_method_13_code, 1, (some .int), 0, 0)
def F_Net_otherOf : zMR := (⟨"ToldNet$Net", "otherOf", "(I)I"⟩, prog_3_method_14_code, 1, (some .int), 0, 0)
def F_Net_shuffle : zMR := (⟨"ToldNet$Net", "shuffle", "(LToldNet$Net;I)V"⟩, prog_3_method_15_code, 11, none, 4, 88)
def F_Net_swap : zMR := (⟨"ToldNet$Net", "swap", "(IIII)V"⟩, prog_3_method_16_code, 6, none, 1, 22)
def F_Net_lot : zMR := (⟨"ToldNet$Net", "lot", "(III)I"⟩, prog_3_method_17_code, 4, (some .int), 1, 22)
def F_Net_mix : zMR := (⟨"ToldNet$Net", "mix", "(II)I"⟩, prog_3_method_18_code, 3, (some .int), 0, 0)
def F_Parting_init : zMR := (⟨"ToldNet$Parting", "<init>", "()V"⟩, prog_5_method_1_code, 1, none, 3, 66)
def F_Parting_setAlone : zMR := (⟨"ToldNet$Parting", "setAlone", "(I)V"⟩, prog_5_method_2_code, 3, none, 2, 45)
def F_Parting_setWhole : zMR := (⟨"ToldNet$Parting", "setWhole", "(I)V"⟩, prog_5_method_3_code, 2, none, 2, 45)
def F_Parting_become : zMR := (⟨"ToldNet$Parting", "become", "(LToldNet$Parting;)V"⟩, prog_5_method_4_code, 2, none, 1, 26)
def F_Parting_number : zMR := (⟨"ToldNet$Parting", "number", "()V"⟩, prog_5_method_5_code, 3, none, 1, 23)
def F_Parting_isBox : zMR := (⟨"ToldNet$Parting", "isBox", "(I)Z"⟩, prog_5_method_6_code, 2, (some .boolean), 0, 0)
def F_Parting_sizeOf : zMR := (⟨"ToldNet$Parting", "sizeOf", "(I)I"⟩, prog_5_method_7_code, 2, (some .int), 1, 20)
def F_Parting_startOf : zMR := (⟨"ToldNet$Parting", "startOf", "(I)I"⟩, prog_5_method_8_code, 4, (some .int), 1, 20)
def F_Parting_isAlone : zMR := (⟨"ToldNet$Parting", "isAlone", "(I)Z"⟩, prog_5_method_9_code, 2, (some .boolean), 0, 0)
def F_Parting_join : zMR := (⟨"ToldNet$Parting", "join", "(II)V"⟩, prog_5_method_10_code, 4, none, 2, 45)
def F_Parting_lift : zMR := (⟨"ToldNet$Parting", "lift", "(I)V"⟩, prog_5_method_11_code, 2, none, 2, 45)
def F_Parting_put : zMR := (⟨"ToldNet$Parting", "put", "(II)V"⟩, prog_5_method_12_code, 3, none, 2, 45)
def F_Parting_goOn : zMR := (⟨"ToldNet$Parting", "goOn", "()Z"⟩, prog_5_method_13_code, 4, (some .boolean), 2, 45)
def F_Parting_refine : zMR := (⟨"ToldNet$Parting", "refine", "(LToldNet$Net;[I)I"⟩, prog_5_method_14_code, 7, (some .int), 3, 68)
def F_Parting_partOnce : zMR := (⟨"ToldNet$Parting", "partOnce", "(LToldNet$Net;)V"⟩, prog_5_method_15_code, 4, none, 2, 45)
def F_Parting_isAlike : zMR := (⟨"ToldNet$Parting", "isAlike", "(LToldNet$Net;II)Z"⟩, prog_5_method_16_code, 5, (some .boolean), 1, 20)
def F_Parting_group : zMR := (⟨"ToldNet$Parting", "group", "(LToldNet$Net;[II)V"⟩, prog_5_method_17_code, 6, none, 2, 47)
def F_Parting_fits : zMR := (⟨"ToldNet$Parting", "fits", "(LToldNet$Net;[IIII)Z"⟩, prog_5_method_18_code, 8, (some .boolean), 1, 20)
def F_Telling_init : zMR := (⟨"ToldNet$Telling", "<init>", "()V"⟩, prog_11_method_1_code, 1, none, 4, 86)
def F_Telling_wordOf : zMR := (⟨"ToldNet$Telling", "wordOf", "(III)I"⟩, prog_11_method_2_code, 3, (some .int), 0, 0)
def F_Telling_kindOf : zMR := (⟨"ToldNet$Telling", "kindOf", "(I)I"⟩, prog_11_method_3_code, 1, (some .int), 0, 0)
def F_Telling_firstOf : zMR := (⟨"ToldNet$Telling", "firstOf", "(I)I"⟩, prog_11_method_4_code, 1, (some .int), 0, 0)
def F_Telling_secondOf : zMR := (⟨"ToldNet$Telling", "secondOf", "(I)I"⟩, prog_11_method_5_code, 1, (some .int), 0, 0)
def F_Telling_become : zMR := (⟨"ToldNet$Telling", "become", "(LToldNet$Telling;)V"⟩, prog_11_method_6_code, 2, none, 2, 47)
def F_Telling_clearWords : zMR := (⟨"ToldNet$Telling", "clearWords", "()V"⟩, prog_11_method_7_code, 1, none, 2, 44)
def F_Telling_addWord : zMR := (⟨"ToldNet$Telling", "addWord", "(I)V"⟩, prog_11_method_8_code, 2, none, 0, 0)
def F_Telling_bitsOf : zMR := (⟨"ToldNet$Telling", "bitsOf", "(I)I"⟩, prog_11_method_9_code, 3, (some .int), 1, 21)
def F_Telling_say : zMR := (⟨"ToldNet$Telling", "say", "(ILToldNet$Net;)V"⟩, prog_11_method_10_code, 5, none, 2, 43)
def F_Telling_build : zMR := (⟨"ToldNet$Telling", "build", "(LToldNet$Net;)V"⟩, prog_11_method_11_code, 2, none, 1, 23)
def F_Telling_correct : zMR := (⟨"ToldNet$Telling", "correct", "(LToldNet$Net;)V"⟩, prog_11_method_12_code, 2, none, 2, 44)
def F_Telling_isLeft : zMR := (⟨"ToldNet$Telling", "isLeft", "(I)Z"⟩, prog_11_method_13_code, 2, (some .boolean), 1, 22)
def F_Telling_setLeft : zMR := (⟨"ToldNet$Telling", "setLeft", "(IZ)V"⟩, prog_11_method_14_code, 3, none, 2, 43)
def F_Telling_plainLength : zMR := (⟨"ToldNet$Telling", "plainLength", "()I"⟩, prog_11_method_15_code, 4, (some .int), 2, 43)
def F_Telling_countBroken : zMR := (⟨"ToldNet$Telling", "countBroken", "(LToldNet$Telling;)I"⟩, prog_11_method_16_code, 4, (some .int), 5, 122)
def F_Telling_hasLike : zMR := (⟨"ToldNet$Telling", "hasLike", "(LToldNet$Telling;I)Z"⟩, prog_11_method_17_code, 4, (some .boolean), 4, 99)
def F_Telling_isLike : zMR := (⟨"ToldNet$Telling", "isLike", "(ILToldNet$Telling;I)Z"⟩, prog_11_method_18_code, 8, (some .boolean), 3, 72)
def F_Telling_isSameRow : zMR := (⟨"ToldNet$Telling", "isSameRow", "(ILToldNet$Telling;I)Z"⟩, prog_11_method_19_code, 10, (some .boolean), 2, 43)
def F_Tape_init : zMR := (⟨"ToldNet$Tape", "<init>", "()V"⟩, prog_10_method_1_code, 1, none, 5, 108)
def F_Tape_spell : zMR := (⟨"ToldNet$Tape", "spell", "(Ljava/lang/String;)J"⟩, prog_10_method_2_code, 4, (some .long), 4, 85)
def F_Tape_put : zMR := (⟨"ToldNet$Tape", "put", "(I)V"⟩, prog_10_method_3_code, 3, none, 0, 0)
def F_Tape_scan : zMR := (⟨"ToldNet$Tape", "scan", "()V"⟩, prog_10_method_4_code, 9, none, 2, 48)
def F_Tape_blame : zMR := (⟨"ToldNet$Tape", "blame", "(II)V"⟩, prog_10_method_5_code, 3, none, 0, 0)
def F_Tape_keep : zMR := (⟨"ToldNet$Tape", "keep", "(IJI)V"⟩, prog_10_method_6_code, 5, none, 0, 0)
def F_Tape_skipBlanks : zMR := (⟨"ToldNet$Tape", "skipBlanks", "(I)I"⟩, prog_10_method_7_code, 3, (some .int), 1, 22)
def F_Tape_endOf : zMR := (⟨"ToldNet$Tape", "endOf", "(I)I"⟩, prog_10_method_8_code, 4, (some .int), 1, 22)
def F_Tape_sortOf : zMR := (⟨"ToldNet$Tape", "sortOf", "(I)I"⟩, prog_10_method_9_code, 3, (some .int), 0, 0)
def F_Tape_valueOf : zMR := (⟨"ToldNet$Tape", "valueOf", "(II)J"⟩, prog_10_method_10_code, 7, (some .long), 1, 22)
def F_Tape_kindOf : zMR := (⟨"ToldNet$Tape", "kindOf", "(IIJ)I"⟩, prog_10_method_11_code, 6, (some .int), 1, 23)
def F_Tape_nameKind : zMR := (⟨"ToldNet$Tape", "nameKind", "(J)I"⟩, prog_10_method_12_code, 4, (some .int), 0, 0)
def F_Tape_isWord : zMR := (⟨"ToldNet$Tape", "isWord", "(I)Z"⟩, prog_10_method_13_code, 1, (some .boolean), 0, 0)
def F_Tape_step : zMR := (⟨"ToldNet$Tape", "step", "(II)I"⟩, prog_10_method_14_code, 2, (some .int), 1, 20)
def F_Tape_begin : zMR := (⟨"ToldNet$Tape", "begin", "(I)I"⟩, prog_10_method_15_code, 1, (some .int), 0, 0)
def F_Text_init : zMR := (⟨"ToldNet$Text", "<init>", "()V"⟩, prog_12_method_1_code, 1, none, 2, 32)
def F_Text_understand : zMR := (⟨"ToldNet$Text", "understand", "(LToldNet$Tape;I)V"⟩, prog_12_method_2_code, 4, none, 4, 93)
def F_Text_blame : zMR := (⟨"ToldNet$Text", "blame", "(II)V"⟩, prog_12_method_3_code, 3, none, 0, 0)
def F_Text_takeTell : zMR := (⟨"ToldNet$Text", "takeTell", "(LToldNet$Tape;I)I"⟩, prog_12_method_4_code, 3, (some .int), 3, 71)
def F_Text_findName : zMR := (⟨"ToldNet$Text", "findName", "(J)I"⟩, prog_12_method_5_code, 4, (some .int), 0, 0)
def F_Text_boxNamed : zMR := (⟨"ToldNet$Text", "boxNamed", "(LToldNet$Tape;I)I"⟩, prog_12_method_6_code, 4, (some .int), 1, 23)
def F_Text_postTold : zMR := (⟨"ToldNet$Text", "postTold", "(LToldNet$Tape;I)I"⟩, prog_12_method_7_code, 3, (some .int), 1, 22)
def F_Text_takeBox : zMR := (⟨"ToldNet$Text", "takeBox", "(LToldNet$Tape;I)I"⟩, prog_12_method_8_code, 8, (some .int), 2, 44)
def F_Text_takeOfBox : zMR := (⟨"ToldNet$Text", "takeOfBox", "(LToldNet$Tape;II)V"⟩, prog_12_method_9_code, 5, none, 2, 47)
def F_Text_takeSides : zMR := (⟨"ToldNet$Text", "takeSides", "(LToldNet$Tape;I)V"⟩, prog_12_method_10_code, 5, none, 2, 47)
def F_Text_takeStar : zMR := (⟨"ToldNet$Text", "takeStar", "(LToldNet$Tape;I)V"⟩, prog_12_method_11_code, 5, none, 2, 47)
def F_Text_takeWord : zMR := (⟨"ToldNet$Text", "takeWord", "(IIII)V"⟩, prog_12_method_12_code, 6, none, 1, 22)
def F_Text_takePair : zMR := (⟨"ToldNet$Text", "takePair", "(LToldNet$Tape;I)V"⟩, prog_12_method_13_code, 6, none, 2, 44)
def F_Text_checkAlsos : zMR := (⟨"ToldNet$Text", "checkAlsos", "(LToldNet$Tape;)V"⟩, prog_12_method_14_code, 5, none, 2, 44)
def F_Text_write : zMR := (⟨"ToldNet$Text", "write", "(LToldNet$Telling;)V"⟩, prog_12_method_15_code, 5, none, 3, 67)
def F_Text_boxOf : zMR := (⟨"ToldNet$Text", "boxOf", "(I)I"⟩, prog_12_method_16_code, 3, (some .int), 0, 0)
def F_Text_numberOf : zMR := (⟨"ToldNet$Text", "numberOf", "(LToldNet$Parting;I)I"⟩, prog_12_method_17_code, 4, (some .int), 0, 0)
def F_Text_numbered : zMR := (⟨"ToldNet$Text", "numbered", "(LToldNet$Parting;I)I"⟩, prog_12_method_18_code, 5, (some .int), 1, 26)
def F_Text_insert : zMR := (⟨"ToldNet$Text", "insert", "(LToldNet$Telling;I)V"⟩, prog_12_method_19_code, 3, none, 1, 21)
def F_Rule_init : zMR := (⟨"ToldNet$Rule", "<init>", "()V"⟩, prog_7_method_1_code, 1, none, 1, 12)
def F_Rule_tell : zMR := (⟨"ToldNet$Rule", "tell", "(LToldNet$Net;LToldNet$Telling;)I"⟩, prog_7_method_2_code, 3, (some .int), 3, 75)
def F_Rule_countBetween : zMR := (⟨"ToldNet$Rule", "countBetween", "(LToldNet$Net;LToldNet$Parting;)V"⟩, prog_7_method_3_code, 6, none, 1, 23)
def F_Rule_isSparing : zMR := (⟨"ToldNet$Rule", "isSparing", "(III)Z"⟩, prog_7_method_4_code, 4, (some .boolean), 0, 0)
def F_Rule_takeCrowds : zMR := (⟨"ToldNet$Rule", "takeCrowds", "(LToldNet$Telling;)V"⟩, prog_7_method_5_code, 6, none, 2, 41)
def F_Rule_takeSides : zMR := (⟨"ToldNet$Rule", "takeSides", "(LToldNet$Telling;)V"⟩, prog_7_method_6_code, 7, none, 2, 41)
def F_Rule_takeStars : zMR := (⟨"ToldNet$Rule", "takeStars", "(LToldNet$Net;LToldNet$Telling;)V"⟩, prog_7_method_7_code, 8, none, 1, 24)
def F_Rule_layRows : zMR := (⟨"ToldNet$Rule", "layRows", "(LToldNet$Net;LToldNet$Telling;)V"⟩, prog_7_method_8_code, 11, none, 2, 45)
def F_Rule_firstInRow : zMR := (⟨"ToldNet$Rule", "firstInRow", "(LToldNet$Net;I)I"⟩, prog_7_method_9_code, 6, (some .int), 1, 20)
def F_Rule_takeChains : zMR := (⟨"ToldNet$Rule", "takeChains", "(LToldNet$Net;LToldNet$Telling;)V"⟩, prog_7_method_10_code, 12, none, 2, 41)
def F_Search_init : zMR := (⟨"ToldNet$Search", "<init>", "()V"⟩, prog_8_method_1_code, 1, none, 5, 106)
def F_Search_partByRule : zMR := (⟨"ToldNet$Search", "partByRule", "(LToldNet$Net;LToldNet$Parting;)V"⟩, prog_8_method_2_code, 7, none, 5, 123)
def F_Search_joinTwo : zMR := (⟨"ToldNet$Search", "joinTwo", "(LToldNet$Net;)Z"⟩, prog_8_method_3_code, 7, (some .boolean), 4, 97)
def F_Search_movePost : zMR := (⟨"ToldNet$Search", "movePost", "(LToldNet$Net;I)Z"⟩, prog_8_method_4_code, 7, (some .boolean), 4, 97)
def F_Search_partLeast : zMR := (⟨"ToldNet$Search", "partLeast", "(LToldNet$Net;LToldNet$Parting;)I"⟩, prog_8_method_5_code, 7, (some .int), 4, 97)
def F_Search_boundBelow : zMR := (⟨"ToldNet$Search", "boundBelow", "(LToldNet$Net;)I"⟩, prog_8_method_6_code, 5, (some .int), 4, 97)
def F_Search_partPiece : zMR := (⟨"ToldNet$Search", "partPiece", "(LToldNet$Net;II)V"⟩, prog_8_method_7_code, 9, none, 3, 69)
def F_Search_wrongPairs : zMR := (⟨"ToldNet$Search", "wrongPairs", "(LToldNet$Net;ILToldNet$Parting;)I"⟩, prog_8_method_8_code, 9, (some .int), 2, 41)
def F_Sorts_init : zMR := (⟨"ToldNet$Sorts", "<init>", "()V"⟩, prog_9_method_1_code, 1, none, 2, 32)
def F_Sorts_placeOf : zMR := (⟨"ToldNet$Sorts", "placeOf", "(LToldNet$Telling;IIZ)I"⟩, prog_9_method_2_code, 6, (some .int), 1, 26)
def F_Sorts_take : zMR := (⟨"ToldNet$Sorts", "take", "(LToldNet$Telling;)V"⟩, prog_9_method_3_code, 8, none, 3, 69)
def F_Sorts_forget : zMR := (⟨"ToldNet$Sorts", "forget", "()V"⟩, prog_9_method_4_code, 2, none, 0, 0)
def F_Sorts_countFree : zMR := (⟨"ToldNet$Sorts", "countFree", "(IZ)V"⟩, prog_9_method_5_code, 3, none, 0, 0)
def F_Sorts_settle : zMR := (⟨"ToldNet$Sorts", "settle", "(I)V"⟩, prog_9_method_6_code, 6, none, 2, 44)
def F_Sorts_isSaid : zMR := (⟨"ToldNet$Sorts", "isSaid", "(I)Z"⟩, prog_9_method_7_code, 1, (some .boolean), 0, 0)
def F_Sorts_measure : zMR := (⟨"ToldNet$Sorts", "measure", "(LToldNet$Telling;)I"⟩, prog_9_method_8_code, 2, (some .int), 4, 96)
def F_Sorts_lengthOf : zMR := (⟨"ToldNet$Sorts", "lengthOf", "(LToldNet$Telling;)I"⟩, prog_9_method_9_code, 5, (some .int), 3, 66)
def F_Sorts_answer : zMR := (⟨"ToldNet$Sorts", "answer", "(LToldNet$Telling;IIII)I"⟩, prog_9_method_10_code, 6, (some .int), 3, 82)
def F_Sorts_off : zMR := (⟨"ToldNet$Sorts", "off", "(LToldNet$Telling;III)I"⟩, prog_9_method_11_code, 5, (some .int), 4, 107)
def F_Sorts_see : zMR := (⟨"ToldNet$Sorts", "see", "(Z)V"⟩, prog_9_method_12_code, 2, none, 2, 47)
def F_Sorts_countSteps : zMR := (⟨"ToldNet$Sorts", "countSteps", "(II)I"⟩, prog_9_method_13_code, 7, (some .int), 0, 0)
def F_Sorts_countTrios : zMR := (⟨"ToldNet$Sorts", "countTrios", "(I)I"⟩, prog_9_method_14_code, 4, (some .int), 1, 22)
def F_Sorts_partners : zMR := (⟨"ToldNet$Sorts", "partners", "(IIIII)I"⟩, prog_9_method_15_code, 5, (some .int), 0, 0)
def F_Sorts_sum : zMR := (⟨"ToldNet$Sorts", "sum", "(IIIII)I"⟩, prog_9_method_16_code, 11, (some .int), 2, 52)
def F_Sorts_countAsked : zMR := (⟨"ToldNet$Sorts", "countAsked", "(I)V"⟩, prog_9_method_17_code, 2, none, 0, 0)
def F_Sorts_share : zMR := (⟨"ToldNet$Sorts", "share", "(II)I"⟩, prog_9_method_18_code, 7, (some .int), 1, 26)
def F_Sorts_followLeads : zMR := (⟨"ToldNet$Sorts", "followLeads", "(LToldNet$Telling;III)V"⟩, prog_9_method_19_code, 9, none, 5, 131)
def F_Reader_init : zMR := (⟨"ToldNet$Reader", "<init>", "()V"⟩, prog_6_method_1_code, 1, none, 2, 32)
def F_Reader_add : zMR := (⟨"ToldNet$Reader", "add", "(IIII)I"⟩, prog_6_method_2_code, 5, (some .int), 0, 0)
def F_Reader_harmBy : zMR := (⟨"ToldNet$Reader", "harmBy", "(LToldNet$Telling;LToldNet$Sorts;)I"⟩, prog_6_method_3_code, 5, (some .int), 5, 131)
def F_Reader_begin : zMR := (⟨"ToldNet$Reader", "begin", "(LToldNet$Telling;)Z"⟩, prog_6_method_4_code, 3, (some .boolean), 4, 88)
def F_Reader_tellOnly : zMR := (⟨"ToldNet$Reader", "tellOnly", "(LToldNet$Telling;I)V"⟩, prog_6_method_5_code, 4, none, 3, 65)
def F_Reader_serveBest : zMR := (⟨"ToldNet$Reader", "serveBest", "(LToldNet$Telling;LToldNet$Sorts;I)I"⟩, prog_6_method_6_code, 10, (some .int), 6, 155)
def F_Reader_serveSteps : zMR := (⟨"ToldNet$Reader", "serveSteps", "(LToldNet$Telling;LToldNet$Sorts;I)I"⟩, prog_6_method_7_code, 10, (some .int), 6, 155)
def F_Order_init : zMR := (⟨"ToldNet$Order", "<init>", "()V"⟩, prog_4_method_1_code, 1, none, 2, 32)
def F_Order_lay : zMR := (⟨"ToldNet$Order", "lay", "(LToldNet$Telling;)I"⟩, prog_4_method_2_code, 6, (some .int), 2, 45)
def F_Order_sumWith : zMR := (⟨"ToldNet$Order", "sumWith", "(LToldNet$Telling;I)I"⟩, prog_4_method_3_code, 6, (some .int), 1, 20)
def F_Order_boxAt : zMR := (⟨"ToldNet$Order", "boxAt", "(LToldNet$Telling;I)I"⟩, prog_4_method_4_code, 7, (some .int), 3, 68)
def F_Order_canFollow : zMR := (⟨"ToldNet$Order", "canFollow", "(LToldNet$Telling;II)Z"⟩, prog_4_method_5_code, 4, (some .boolean), 2, 45)
def F_Order_speak : zMR := (⟨"ToldNet$Order", "speak", "(LToldNet$Telling;I)V"⟩, prog_4_method_6_code, 5, none, 4, 92)
def F_Order_choose : zMR := (⟨"ToldNet$Order", "choose", "(LToldNet$Telling;)V"⟩, prog_4_method_7_code, 4, none, 3, 69)
def F_Order_spareOf : zMR := (⟨"ToldNet$Order", "spareOf", "(LToldNet$Telling;I)I"⟩, prog_4_method_8_code, 7, (some .int), 2, 43)
def F_Model_init : zMR := (⟨"ToldNetModel", "<init>", "()V"⟩, prog_14_method_1_code, 1, none, 1, 12)
def F_Model_raise : zMR := (⟨"ToldNetModel", "raise", "(I)I"⟩, prog_14_method_3_code, 2, (some .int), 0, 0)
def F_Model_feed : zMR := (⟨"ToldNetModel", "feed", "(IIIII)I"⟩, prog_14_method_4_code, 6, (some .int), 1, 22)
def F_Model_typed : zMR := (⟨"ToldNetModel", "typed", "(I)V"⟩, prog_14_method_5_code, 3, none, 0, 0)
def F_Model_back : zMR := (⟨"ToldNetModel", "back", "(I)I"⟩, prog_14_method_6_code, 2, (some .int), 0, 0)
def F_Model_isPost : zMR := (⟨"ToldNetModel", "isPost", "(I)Z"⟩, prog_14_method_7_code, 2, (some .boolean), 0, 0)
def F_Model_isPair : zMR := (⟨"ToldNetModel", "isPair", "(II)Z"⟩, prog_14_method_8_code, 3, (some .boolean), 1, 21)
def F_Model_net : zMR := (⟨"ToldNetModel", "net", "(I)Z"⟩, prog_14_method_9_code, 3, (some .boolean), 0, 0)
def F_Model_tie : zMR := (⟨"ToldNetModel", "tie", "(IIZ)I"⟩, prog_14_method_10_code, 4, (some .int), 2, 43)
def F_Model_tomorrow : zMR := (⟨"ToldNetModel", "tomorrow", "()I"⟩, prog_14_method_11_code, 1, (some .int), 0, 0)
def F_Model_mark : zMR := (⟨"ToldNetModel", "mark", "(II)Z"⟩, prog_14_method_12_code, 3, (some .boolean), 1, 21)
def F_Model_isDay : zMR := (⟨"ToldNetModel", "isDay", "(I)Z"⟩, prog_14_method_13_code, 2, (some .boolean), 0, 0)
def F_Model_asOf : zMR := (⟨"ToldNetModel", "asOf", "(I)V"⟩, prog_14_method_14_code, 3, none, 0, 0)
def F_Model_ties : zMR := (⟨"ToldNetModel", "ties", "(II)I"⟩, prog_14_method_15_code, 5, (some .int), 1, 22)
def F_Model_tied : zMR := (⟨"ToldNetModel", "tied", "(III)I"⟩, prog_14_method_16_code, 4, (some .int), 2, 43)
def F_Model_compare : zMR := (⟨"ToldNetModel", "compare", "(III)I"⟩, prog_14_method_17_code, 9, (some .int), 1, 22)
def F_Model_aimAtNet : zMR := (⟨"ToldNetModel", "aimAtNet", "()V"⟩, prog_14_method_18_code, 2, none, 0, 0)
def F_Model_bitsOf : zMR := (⟨"ToldNetModel", "bitsOf", "(I)I"⟩, prog_14_method_19_code, 2, (some .int), 0, 0)
def F_Model_exceptBits : zMR := (⟨"ToldNetModel", "exceptBits", "()I"⟩, prog_14_method_20_code, 1, (some .int), 1, 21)
def F_Model_number : zMR := (⟨"ToldNetModel", "number", "(I)V"⟩, prog_14_method_21_code, 5, none, 0, 0)
def F_Model_isIn : zMR := (⟨"ToldNetModel", "isIn", "(III)Z"⟩, prog_14_method_22_code, 4, (some .boolean), 0, 0)
def F_Model_hasOther : zMR := (⟨"ToldNetModel", "hasOther", "(III)Z"⟩, prog_14_method_23_code, 4, (some .boolean), 1, 23)
def F_Model_say : zMR := (⟨"ToldNetModel", "say", "(II)V"⟩, prog_14_method_24_code, 3, none, 0, 0)
def F_Model_hear : zMR := (⟨"ToldNetModel", "hear", "(I)V"⟩, prog_14_method_25_code, 7, none, 1, 22)
def F_Model_sorts : zMR := (⟨"ToldNetModel", "sorts", "(I)V"⟩, prog_14_method_26_code, 5, none, 2, 48)
def F_Model_sortOf : zMR := (⟨"ToldNetModel", "sortOf", "(IIIZ)I"⟩, prog_14_method_27_code, 7, (some .int), 0, 0)
def F_Model_lengthOf : zMR := (⟨"ToldNetModel", "lengthOf", "(I)I"⟩, prog_14_method_28_code, 7, (some .int), 3, 72)
def F_Model_isTelling : zMR := (⟨"ToldNetModel", "isTelling", "(I)Z"⟩, prog_14_method_29_code, 2, (some .boolean), 0, 0)
def F_Model_become : zMR := (⟨"ToldNetModel", "become", "(II)V"⟩, prog_14_method_30_code, 4, none, 0, 0)
def F_Model_clearWords : zMR := (⟨"ToldNetModel", "clearWords", "(I)V"⟩, prog_14_method_31_code, 3, none, 0, 0)
def F_Model_weigh : zMR := (⟨"ToldNetModel", "weigh", "(I)V"⟩, prog_14_method_32_code, 6, none, 0, 0)
def F_Model_rule : zMR := (⟨"ToldNetModel", "rule", "(I)V"⟩, prog_14_method_33_code, 9, none, 2, 52)
def F_Model_exceptsAnew : zMR := (⟨"ToldNetModel", "exceptsAnew", "(I)V"⟩, prog_14_method_34_code, 4, none, 0, 0)
def F_Model_lay : zMR := (⟨"ToldNetModel", "lay", "(II)V"⟩, prog_14_method_35_code, 10, none, 1, 23)
def F_Model_lengthBy : zMR := (⟨"ToldNetModel", "lengthBy", "()I"⟩, prog_14_method_36_code, 2, (some .int), 4, 98)
def F_Model_labelsOf : zMR := (⟨"ToldNetModel", "labelsOf", "(I)V"⟩, prog_14_method_37_code, 3, none, 0, 0)
def F_Model_settle : zMR := (⟨"ToldNetModel", "settle", "(I)V"⟩, prog_14_method_38_code, 3, none, 3, 80)
def F_Model_part : zMR := (⟨"ToldNetModel", "part", "(I)I"⟩, prog_14_method_39_code, 10, (some .int), 6, 147)
def F_Model_moved : zMR := (⟨"ToldNetModel", "moved", "(III)I"⟩, prog_14_method_40_code, 9, (some .int), 5, 119)
def F_Model_goesOn : zMR := (⟨"ToldNetModel", "goesOn", "(I)Z"⟩, prog_14_method_41_code, 5, (some .boolean), 0, 0)
def F_Model_leastOfAll : zMR := (⟨"ToldNetModel", "leastOfAll", "()I"⟩, prog_14_method_42_code, 5, (some .int), 5, 119)
def F_Model_bests : zMR := (⟨"ToldNetModel", "bests", "()I"⟩, prog_14_method_43_code, 2, (some .int), 6, 143)
def F_Model_leaves : zMR := (⟨"ToldNetModel", "leaves", "(II)I"⟩, prog_14_method_44_code, 11, (some .int), 0, 0)
def F_Model_piece : zMR := (⟨"ToldNetModel", "piece", "(II)V"⟩, prog_14_method_45_code, 7, none, 1, 30)
def F_Model_bound : zMR := (⟨"ToldNetModel", "bound", "()I"⟩, prog_14_method_46_code, 4, (some .int), 2, 56)
def F_Model_make : zMR := (⟨"ToldNetModel", "make", "(I)I"⟩, prog_14_method_47_code, 5, (some .int), 7, 176)
def F_Model_copy : zMR := (⟨"ToldNetModel", "copy", "(I)I"⟩, prog_14_method_48_code, 2, (some .int), 1, 23)
def F_Model_drop : zMR := (⟨"ToldNetModel", "drop", "()I"⟩, prog_14_method_49_code, 1, (some .int), 0, 0)
def F_Model_length : zMR := (⟨"ToldNetModel", "length", "(I)I"⟩, prog_14_method_50_code, 2, (some .int), 4, 98)
def F_Model_box : zMR := (⟨"ToldNetModel", "box", "(II)I"⟩, prog_14_method_51_code, 3, (some .int), 1, 21)
def F_Model_isBox : zMR := (⟨"ToldNetModel", "isBox", "(II)Z"⟩, prog_14_method_52_code, 3, (some .boolean), 1, 21)
def F_Model_row : zMR := (⟨"ToldNetModel", "row", "(III)I"⟩, prog_14_method_53_code, 4, (some .int), 2, 43)
def F_Model_seeks : zMR := (⟨"ToldNetModel", "seeks", "(II)Z"⟩, prog_14_method_54_code, 5, (some .boolean), 1, 24)
def F_Model_meets : zMR := (⟨"ToldNetModel", "meets", "(IIII)Z"⟩, prog_14_method_55_code, 5, (some .boolean), 0, 0)
def F_Model_wordsOf : zMR := (⟨"ToldNetModel", "wordsOf", "(I)I"⟩, prog_14_method_56_code, 3, (some .int), 2, 48)
def F_Model_word : zMR := (⟨"ToldNetModel", "word", "(III)I"⟩, prog_14_method_57_code, 4, (some .int), 2, 48)
def F_Model_exceptAt : zMR := (⟨"ToldNetModel", "exceptAt", "(II)I"⟩, prog_14_method_58_code, 5, (some .int), 0, 0)
def F_Model_exceptsOf : zMR := (⟨"ToldNetModel", "exceptsOf", "(I)I"⟩, prog_14_method_59_code, 4, (some .int), 0, 0)
def F_Model_except : zMR := (⟨"ToldNetModel", "except", "(III)I"⟩, prog_14_method_60_code, 5, (some .int), 2, 48)
def F_Model_cellOf : zMR := (⟨"ToldNetModel", "cellOf", "(II)I"⟩, prog_14_method_61_code, 2, (some .int), 0, 0)
def F_Model_builds : zMR := (⟨"ToldNetModel", "builds", "(III)Z"⟩, prog_14_method_62_code, 4, (some .boolean), 1, 21)
def F_Model_built : zMR := (⟨"ToldNetModel", "built", "(III)I"⟩, prog_14_method_63_code, 4, (some .int), 2, 48)
def F_Model_aimAt : zMR := (⟨"ToldNetModel", "aimAt", "(I)V"⟩, prog_14_method_64_code, 4, none, 2, 48)
def F_Model_unlike : zMR := (⟨"ToldNetModel", "unlike", "(II)I"⟩, prog_14_method_65_code, 6, (some .int), 2, 48)
def F_Model_together : zMR := (⟨"ToldNetModel", "together", "(III)I"⟩, prog_14_method_66_code, 5, (some .int), 4, 102)
def F_Model_apart : zMR := (⟨"ToldNetModel", "apart", "(II)I"⟩, prog_14_method_67_code, 3, (some .int), 4, 102)
def F_Model_leave : zMR := (⟨"ToldNetModel", "leave", "(IIZ)Z"⟩, prog_14_method_68_code, 5, (some .boolean), 1, 24)
def F_Model_sort : zMR := (⟨"ToldNetModel", "sort", "(IIIZI)I"⟩, prog_14_method_69_code, 7, (some .int), 3, 72)
def F_Model_isQuestion : zMR := (⟨"ToldNetModel", "isQuestion", "(III)Z"⟩, prog_14_method_70_code, 4, (some .boolean), 2, 43)
def F_Model_isAsked : zMR := (⟨"ToldNetModel", "isAsked", "(IIIII)Z"⟩, prog_14_method_71_code, 6, (some .boolean), 0, 0)
def F_Model_collect : zMR := (⟨"ToldNetModel", "collect", "(IIII)V"⟩, prog_14_method_72_code, 7, none, 1, 26)
def F_Model_sumOf : zMR := (⟨"ToldNetModel", "sumOf", "(Z)I"⟩, prog_14_method_73_code, 8, (some .int), 0, 0)
def F_Model_links : zMR := (⟨"ToldNetModel", "links", "(IZ)V"⟩, prog_14_method_74_code, 7, none, 1, 26)
def F_Model_farOf : zMR := (⟨"ToldNetModel", "farOf", "(II)I"⟩, prog_14_method_75_code, 6, (some .int), 0, 0)
def F_Model_pathsOf : zMR := (⟨"ToldNetModel", "pathsOf", "(II)I"⟩, prog_14_method_76_code, 5, (some .int), 0, 0)
def F_Model_triosOf : zMR := (⟨"ToldNetModel", "triosOf", "(I)I"⟩, prog_14_method_77_code, 5, (some .int), 0, 0)
def F_Model_endOf : zMR := (⟨"ToldNetModel", "endOf", "(IIIIZ)I"⟩, prog_14_method_78_code, 6, (some .int), 2, 52)
def F_Model_offOf : zMR := (⟨"ToldNetModel", "offOf", "(IIII)I"⟩, prog_14_method_79_code, 5, (some .int), 3, 77)
def F_Model_ask : zMR := (⟨"ToldNetModel", "ask", "(IIIIZ)I"⟩, prog_14_method_80_code, 6, (some .int), 3, 77)
def F_Model_mean : zMR := (⟨"ToldNetModel", "mean", "(IIII)I"⟩, prog_14_method_81_code, 8, (some .int), 3, 72)
def F_Model_leadOf : zMR := (⟨"ToldNetModel", "leadOf", "(IIIII)I"⟩, prog_14_method_82_code, 12, (some .int), 4, 101)
def F_Model_leads : zMR := (⟨"ToldNetModel", "leads", "(IIII)I"⟩, prog_14_method_83_code, 6, (some .int), 5, 132)
def F_Model_led : zMR := (⟨"ToldNetModel", "led", "(IIIII)I"⟩, prog_14_method_84_code, 6, (some .int), 5, 132)
def F_Model_reader : zMR := (⟨"ToldNetModel", "reader", "(IIII)I"⟩, prog_14_method_85_code, 5, (some .int), 3, 66)
def F_Model_harmOf : zMR := (⟨"ToldNetModel", "harmOf", "(I)I"⟩, prog_14_method_86_code, 4, (some .int), 4, 101)
def F_Model_harm : zMR := (⟨"ToldNetModel", "harm", "(I)I"⟩, prog_14_method_87_code, 2, (some .int), 5, 124)
def F_Model_tell : zMR := (⟨"ToldNetModel", "tell", "(II)V"⟩, prog_14_method_88_code, 5, none, 0, 0)
def F_Model_serveFew : zMR := (⟨"ToldNetModel", "serveFew", "(III)I"⟩, prog_14_method_89_code, 10, (some .int), 5, 124)
def F_Model_serveMany : zMR := (⟨"ToldNetModel", "serveMany", "(III)I"⟩, prog_14_method_90_code, 10, (some .int), 5, 124)
def F_Model_serve : zMR := (⟨"ToldNetModel", "serve", "(II)I"⟩, prog_14_method_91_code, 6, (some .int), 6, 153)
def F_Model_isLike : zMR := (⟨"ToldNetModel", "isLike", "(III)Z"⟩, prog_14_method_92_code, 8, (some .boolean), 0, 0)
def F_Model_refine : zMR := (⟨"ToldNetModel", "refine", "()I"⟩, prog_14_method_93_code, 7, (some .int), 1, 27)
def F_Model_rounds : zMR := (⟨"ToldNetModel", "rounds", "()I"⟩, prog_14_method_94_code, 1, (some .int), 2, 53)
def F_Model_coarsest : zMR := (⟨"ToldNetModel", "coarsest", "(I)I"⟩, prog_14_method_95_code, 3, (some .int), 2, 53)
def F_Model_isNear : zMR := (⟨"ToldNetModel", "isNear", "(III)Z"⟩, prog_14_method_96_code, 6, (some .boolean), 0, 0)
def F_Model_nearly : zMR := (⟨"ToldNetModel", "nearly", "(II)I"⟩, prog_14_method_97_code, 8, (some .int), 1, 25)
def F_Model_mend : zMR := (⟨"ToldNetModel", "mend", "(I)I"⟩, prog_14_method_98_code, 5, (some .int), 7, 176)
def F_Model_maskOf : zMR := (⟨"ToldNetModel", "maskOf", "(II)I"⟩, prog_14_method_99_code, 5, (some .int), 1, 23)
def F_Model_boxAlike : zMR := (⟨"ToldNetModel", "boxAlike", "(III)I"⟩, prog_14_method_100_code, 5, (some .int), 2, 47)
def F_Model_isRowAlike : zMR := (⟨"ToldNetModel", "isRowAlike", "(IIII)Z"⟩, prog_14_method_101_code, 10, (some .boolean), 0, 0)
def F_Model_hasWord : zMR := (⟨"ToldNetModel", "hasWord", "(II)Z"⟩, prog_14_method_102_code, 5, (some .boolean), 3, 71)
def F_Model_broken : zMR := (⟨"ToldNetModel", "broken", "(II)I"⟩, prog_14_method_103_code, 7, (some .int), 4, 95)
def F_Model_tiesOfBoxes : zMR := (⟨"ToldNetModel", "tiesOfBoxes", "(I)V"⟩, prog_14_method_104_code, 4, none, 2, 48)
def F_Model_stretch : zMR := (⟨"ToldNetModel", "stretch", "(I)I"⟩, prog_14_method_105_code, 5, (some .int), 0, 0)
def F_Model_reorders : zMR := (⟨"ToldNetModel", "reorders", "(I)Z"⟩, prog_14_method_106_code, 7, (some .boolean), 0, 0)
def F_Model_lineOf : zMR := (⟨"ToldNetModel", "lineOf", "(I)I"⟩, prog_14_method_107_code, 7, (some .int), 3, 71)
def F_Model_line : zMR := (⟨"ToldNetModel", "line", "(I)I"⟩, prog_14_method_108_code, 2, (some .int), 4, 97)
def F_Model_at : zMR := (⟨"ToldNetModel", "at", "(II)I"⟩, prog_14_method_109_code, 4, (some .int), 4, 97)
def F_Model_isOfWord : zMR := (⟨"ToldNetModel", "isOfWord", "(III)Z"⟩, prog_14_method_110_code, 9, (some .boolean), 0, 0)
def F_Model_spareOf : zMR := (⟨"ToldNetModel", "spareOf", "(I)I"⟩, prog_14_method_111_code, 5, (some .int), 2, 44)
def F_Model_speaks : zMR := (⟨"ToldNetModel", "speaks", "(II)I"⟩, prog_14_method_112_code, 9, (some .int), 3, 70)
def F_Model_sentence : zMR := (⟨"ToldNetModel", "sentence", "(II)I"⟩, prog_14_method_113_code, 3, (some .int), 4, 98)
def F_Model_spares : zMR := (⟨"ToldNetModel", "spares", "(II)I"⟩, prog_14_method_114_code, 3, (some .int), 4, 98)
def F_Model_mixed : zMR := (⟨"ToldNetModel", "mixed", "(II)I"⟩, prog_14_method_115_code, 3, (some .int), 0, 0)
def F_Model_lot : zMR := (⟨"ToldNetModel", "lot", "(III)I"⟩, prog_14_method_116_code, 3, (some .int), 1, 22)
def F_Model_tieAt : zMR := (⟨"ToldNetModel", "tieAt", "(I)I"⟩, prog_14_method_117_code, 5, (some .int), 0, 0)
def F_Model_link : zMR := (⟨"ToldNetModel", "link", "(IIZ)V"⟩, prog_14_method_118_code, 4, none, 0, 0)
def F_Model_tiesOfGoal : zMR := (⟨"ToldNetModel", "tiesOfGoal", "()I"⟩, prog_14_method_119_code, 4, (some .int), 0, 0)
def F_Model_shuffle : zMR := (⟨"ToldNetModel", "shuffle", "(I)V"⟩, prog_14_method_120_code, 11, none, 2, 44)
def F_Model_chance : zMR := (⟨"ToldNetModel", "chance", "(III)I"⟩, prog_14_method_121_code, 4, (some .int), 3, 74)
def F_Model_lengthOfBoxes : zMR := (⟨"ToldNetModel", "lengthOfBoxes", "(I)I"⟩, prog_14_method_122_code, 2, (some .int), 5, 119)
def F_Model_odds : zMR := (⟨"ToldNetModel", "odds", "(III)I"⟩, prog_14_method_123_code, 7, (some .int), 6, 140)
def F_Model_byteAt : zMR := (⟨"ToldNetModel", "byteAt", "(I)I"⟩, prog_14_method_124_code, 2, (some .int), 0, 0)
def F_Model_isLetter : zMR := (⟨"ToldNetModel", "isLetter", "(I)Z"⟩, prog_14_method_125_code, 2, (some .boolean), 1, 21)
def F_Model_isDigit : zMR := (⟨"ToldNetModel", "isDigit", "(I)Z"⟩, prog_14_method_126_code, 2, (some .boolean), 1, 21)
def F_Model_token : zMR := (⟨"ToldNetModel", "token", "(IIII)V"⟩, prog_14_method_127_code, 5, none, 0, 0)
def F_Model_wordOf : zMR := (⟨"ToldNetModel", "wordOf", "(J)I"⟩, prog_14_method_128_code, 2, (some .int), 0, 0)
def F_Model_scan : zMR := (⟨"ToldNetModel", "scan", "(I)I"⟩, prog_14_method_129_code, 6, (some .int), 2, 42)
def F_Model_scanAll : zMR := (⟨"ToldNetModel", "scanAll", "()V"⟩, prog_14_method_130_code, 4, none, 3, 67)
def F_Model_wrong : zMR := (⟨"ToldNetModel", "wrong", "(I)Z"⟩, prog_14_method_131_code, 2, (some .boolean), 0, 0)
def F_Model_takes : zMR := (⟨"ToldNetModel", "takes", "(I)Z"⟩, prog_14_method_132_code, 2, (some .boolean), 1, 21)
def F_Model_takesTwo : zMR := (⟨"ToldNetModel", "takesTwo", "(II)Z"⟩, prog_14_method_133_code, 3, (some .boolean), 2, 42)
def F_Model_goesThrough : zMR := (⟨"ToldNetModel", "goesThrough", "()Z"⟩, prog_14_method_134_code, 2, (some .boolean), 3, 64)
def F_Model_parses : zMR := (⟨"ToldNetModel", "parses", "()Z"⟩, prog_14_method_135_code, 2, (some .boolean), 4, 85)
def F_Model_tells : zMR := (⟨"ToldNetModel", "tells", "(II)V"⟩, prog_14_method_136_code, 3, none, 0, 0)
def F_Model_textBox : zMR := (⟨"ToldNetModel", "textBox", "(I)I"⟩, prog_14_method_137_code, 3, (some .int), 0, 0)
def F_Model_knownBox : zMR := (⟨"ToldNetModel", "knownBox", "(I)I"⟩, prog_14_method_138_code, 3, (some .int), 1, 22)
def F_Model_isKnownPost : zMR := (⟨"ToldNetModel", "isKnownPost", "(I)Z"⟩, prog_14_method_139_code, 2, (some .boolean), 1, 22)
def F_Model_tellBox : zMR := (⟨"ToldNetModel", "tellBox", "()V"⟩, prog_14_method_140_code, 3, none, 2, 43)
def F_Model_tellWord : zMR := (⟨"ToldNetModel", "tellWord", "(IIII)V"⟩, prog_14_method_141_code, 6, none, 1, 22)
def F_Model_tellOne : zMR := (⟨"ToldNetModel", "tellOne", "(I)V"⟩, prog_14_method_142_code, 3, none, 2, 47)
def F_Model_tellSides : zMR := (⟨"ToldNetModel", "tellSides", "()V"⟩, prog_14_method_143_code, 3, none, 2, 47)
def F_Model_tellStar : zMR := (⟨"ToldNetModel", "tellStar", "()V"⟩, prog_14_method_144_code, 4, none, 2, 47)
def F_Model_isTextSaid : zMR := (⟨"ToldNetModel", "isTextSaid", "(III)Z"⟩, prog_14_method_145_code, 7, (some .boolean), 0, 0)
def F_Model_isSomeSaid : zMR := (⟨"ToldNetModel", "isSomeSaid", "(II)Z"⟩, prog_14_method_146_code, 4, (some .boolean), 1, 26)
def F_Model_tellPair : zMR := (⟨"ToldNetModel", "tellPair", "(Z)V"⟩, prog_14_method_147_code, 7, none, 2, 49)
def F_Model_tellAll : zMR := (⟨"ToldNetModel", "tellAll", "()V"⟩, prog_14_method_148_code, 2, none, 3, 75)
def F_Model_build : zMR := (⟨"ToldNetModel", "build", "(I)V"⟩, prog_14_method_149_code, 5, none, 1, 24)
def F_Model_read : zMR := (⟨"ToldNetModel", "read", "()I"⟩, prog_14_method_150_code, 1, (some .int), 5, 106)
def F_Model_place : zMR := (⟨"ToldNetModel", "place", "()I"⟩, prog_14_method_151_code, 1, (some .int), 0, 0)
def F_Model_count : zMR := (⟨"ToldNetModel", "count", "(I)I"⟩, prog_14_method_152_code, 2, (some .int), 4, 92)
def F_Model_countOf : zMR := (⟨"ToldNetModel", "countOf", "(I)I"⟩, prog_14_method_153_code, 3, (some .int), 3, 70)
def zFnL : List zMR := [F_Integer_bitCount, F_Arrays_fill, F_ToldNet_init, F_ToldNet_feed, F_ToldNet_back, F_ToldNet_net, F_ToldNet_tie, F_ToldNet_tomorrow, F_ToldNet_mark, F_ToldNet_ties, F_ToldNet_tied, F_ToldNet_read, F_ToldNet_place, F_ToldNet_make, F_ToldNet_copy, F_ToldNet_drop, F_ToldNet_length, F_ToldNet_box, F_ToldNet_row, F_ToldNet_word, F_ToldNet_except, F_ToldNet_built, F_ToldNet_unlike, F_ToldNet_together, F_ToldNet_apart, F_ToldNet_bound, F_ToldNet_bests, F_ToldNet_leave, F_ToldNet_sort, F_ToldNet_ask, F_ToldNet_mean, F_ToldNet_leads, F_ToldNet_led, F_ToldNet_reader, F_ToldNet_harm, F_ToldNet_serve, F_ToldNet_rounds, F_ToldNet_coarsest, F_ToldNet_nearly, F_ToldNet_mend, F_ToldNet_broken, F_ToldNet_line, F_ToldNet_at, F_ToldNet_sentence, F_ToldNet_spares, F_ToldNet_compare, F_ToldNet_odds, F_ToldNet_chance, F_ToldNet_count, F_ToldNet_countIn, F_ToldNet_find, F_ToldNet_bits, F_ToldNet_exceptBits, F_ToldNet_leastOf, F_Days_init, F_Days_begin, F_Days_goOn, F_Days_now, F_Days_on, F_Days_isPost, F_Days_isPair, F_Days_isQuestion, F_Net_init, F_Net_clear, F_Net_become, F_Net_differ, F_Net_joins, F_Net_flip, F_Net_cross, F_Net_chain, F_Net_pairs, F_Net_pairsIn, F_Net_pairAt, F_Net_bitAt, F_Net_lesserOf, F_Net_otherOf, F_Net_shuffle, F_Net_swap, F_Net_lot, F_Net_mix, F_Parting_init, F_Parting_setAlone, F_Parting_setWhole, F_Parting_become, F_Parting_number, F_Parting_isBox, F_Parting_sizeOf, F_Parting_startOf, F_Parting_isAlone, F_Parting_join, F_Parting_lift, F_Parting_put, F_Parting_goOn, F_Parting_refine, F_Parting_partOnce, F_Parting_isAlike, F_Parting_group, F_Parting_fits, F_Telling_init, F_Telling_wordOf, F_Telling_kindOf, F_Telling_firstOf, F_Telling_secondOf, F_Telling_become, F_Telling_clearWords, F_Telling_addWord, F_Telling_bitsOf, F_Telling_say, F_Telling_build, F_Telling_correct, F_Telling_isLeft, F_Telling_setLeft, F_Telling_plainLength, F_Telling_countBroken, F_Telling_hasLike, F_Telling_isLike, F_Telling_isSameRow, F_Tape_init, F_Tape_spell, F_Tape_put, F_Tape_scan, F_Tape_blame, F_Tape_keep, F_Tape_skipBlanks, F_Tape_endOf, F_Tape_sortOf, F_Tape_valueOf, F_Tape_kindOf, F_Tape_nameKind, F_Tape_isWord, F_Tape_step, F_Tape_begin, F_Text_init, F_Text_understand, F_Text_blame, F_Text_takeTell, F_Text_findName, F_Text_boxNamed, F_Text_postTold, F_Text_takeBox, F_Text_takeOfBox, F_Text_takeSides, F_Text_takeStar, F_Text_takeWord, F_Text_takePair, F_Text_checkAlsos, F_Text_write, F_Text_boxOf, F_Text_numberOf, F_Text_numbered, F_Text_insert, F_Rule_init, F_Rule_tell, F_Rule_countBetween, F_Rule_isSparing, F_Rule_takeCrowds, F_Rule_takeSides, F_Rule_takeStars, F_Rule_layRows, F_Rule_firstInRow, F_Rule_takeChains, F_Search_init, F_Search_partByRule, F_Search_joinTwo, F_Search_movePost, F_Search_partLeast, F_Search_boundBelow, F_Search_partPiece, F_Search_wrongPairs, F_Sorts_init, F_Sorts_placeOf, F_Sorts_take, F_Sorts_forget, F_Sorts_countFree, F_Sorts_settle, F_Sorts_isSaid, F_Sorts_measure, F_Sorts_lengthOf, F_Sorts_answer, F_Sorts_off, F_Sorts_see, F_Sorts_countSteps, F_Sorts_countTrios, F_Sorts_partners, F_Sorts_sum, F_Sorts_countAsked, F_Sorts_share, F_Sorts_followLeads, F_Reader_init, F_Reader_add, F_Reader_harmBy, F_Reader_begin, F_Reader_tellOnly, F_Reader_serveBest, F_Reader_serveSteps, F_Order_init, F_Order_lay, F_Order_sumWith, F_Order_boxAt, F_Order_canFollow, F_Order_speak, F_Order_choose, F_Order_spareOf, F_Model_init, F_Model_raise, F_Model_feed, F_Model_typed, F_Model_back, F_Model_isPost, F_Model_isPair, F_Model_net, F_Model_tie, F_Model_tomorrow, F_Model_mark, F_Model_isDay, F_Model_asOf, F_Model_ties, F_Model_tied, F_Model_compare, F_Model_aimAtNet, F_Model_bitsOf, F_Model_exceptBits, F_Model_number, F_Model_isIn, F_Model_hasOther, F_Model_say, F_Model_hear, F_Model_sorts, F_Model_sortOf, F_Model_lengthOf, F_Model_isTelling, F_Model_become, F_Model_clearWords, F_Model_weigh, F_Model_rule, F_Model_exceptsAnew, F_Model_lay, F_Model_lengthBy, F_Model_labelsOf, F_Model_settle, F_Model_part, F_Model_moved, F_Model_goesOn, F_Model_leastOfAll, F_Model_bests, F_Model_leaves, F_Model_piece, F_Model_bound, F_Model_make, F_Model_copy, F_Model_drop, F_Model_length, F_Model_box, F_Model_isBox, F_Model_row, F_Model_seeks, F_Model_meets, F_Model_wordsOf, F_Model_word, F_Model_exceptAt, F_Model_exceptsOf, F_Model_except, F_Model_cellOf, F_Model_builds, F_Model_built, F_Model_aimAt, F_Model_unlike, F_Model_together, F_Model_apart, F_Model_leave, F_Model_sort, F_Model_isQuestion, F_Model_isAsked, F_Model_collect, F_Model_sumOf, F_Model_links, F_Model_farOf, F_Model_pathsOf, F_Model_triosOf, F_Model_endOf, F_Model_offOf, F_Model_ask, F_Model_mean, F_Model_leadOf, F_Model_leads, F_Model_led, F_Model_reader, F_Model_harmOf, F_Model_harm, F_Model_tell, F_Model_serveFew, F_Model_serveMany, F_Model_serve, F_Model_isLike, F_Model_refine, F_Model_rounds, F_Model_coarsest, F_Model_isNear, F_Model_nearly, F_Model_mend, F_Model_maskOf, F_Model_boxAlike, F_Model_isRowAlike, F_Model_hasWord, F_Model_broken, F_Model_tiesOfBoxes, F_Model_stretch, F_Model_reorders, F_Model_lineOf, F_Model_line, F_Model_at, F_Model_isOfWord, F_Model_spareOf, F_Model_speaks, F_Model_sentence, F_Model_spares, F_Model_mixed, F_Model_lot, F_Model_tieAt, F_Model_link, F_Model_tiesOfGoal, F_Model_shuffle, F_Model_chance, F_Model_lengthOfBoxes, F_Model_odds, F_Model_byteAt, F_Model_isLetter, F_Model_isDigit, F_Model_token, F_Model_wordOf, F_Model_scan, F_Model_scanAll, F_Model_wrong, F_Model_takes, F_Model_takesTwo, F_Model_goesThrough, F_Model_parses, F_Model_tells, F_Model_textBox, F_Model_knownBox, F_Model_isKnownPost, F_Model_tellBox, F_Model_tellWord, F_Model_tellOne, F_Model_tellSides, F_Model_tellStar, F_Model_isTextSaid, F_Model_isSomeSaid, F_Model_tellPair, F_Model_tellAll, F_Model_build, F_Model_read, F_Model_place, F_Model_count, F_Model_countOf]
def zFn (k : Nat) : zMR := zFnL.getD k F_Integer_bitCount
def zFnP : List (Nat × Nat × Nat) := [(821, 176, 1), (233, 160, 2), (187, 157, 0), (753, 157, 5), (761, 157, 1), (765, 157, 1), (770, 157, 3), (794, 157, 0), (809, 157, 2), (814, 157, 2), (828, 157, 3), (832, 157, 0), (996, 157, 0), (1000, 157, 1), (1143, 157, 1), (1158, 157, 0), (1162, 157, 1), (1203, 157, 2), (1207, 157, 3), (1580, 157, 3), (1672, 157, 3), (1217, 157, 3), (1221, 157, 2), (1231, 157, 3), (1236, 157, 2), (1245, 157, 0), (1266, 157, 0), (1270, 157, 3), (1298, 157, 5), (1304, 157, 5), (1347, 157, 4), (1351, 157, 4), (1368, 157, 5), (1372, 157, 4), (1380, 157, 1), (1389, 157, 2), (1417, 157, 0), (1421, 157, 1), (1425, 157, 2), (1436, 157, 1), (1442, 157, 2), (1470, 157, 1), (1485, 157, 2), (1497, 157, 2), (1523, 157, 2), (1528, 157, 3), (1536, 157, 3), (1563, 157, 3), (1567, 157, 1), (1571, 157, 1), (1147, 157, 1), (1022, 157, 1), (1019, 157, 1), (1063, 157, 1), (195, 158, 0), (226, 158, 1), (798, 158, 0), (782, 158, 0), (818, 158, 1), (778, 158, 1), (774, 158, 2), (1308, 158, 3), (202, 159, 0), (230, 159, 1), (802, 159, 1), (1077, 159, 2), (786, 159, 2), (790, 159, 2), (921, 159, 2), (925, 159, 3), (1094, 159, 0), (1532, 159, 1), (1274, 159, 1), (1277, 159, 2), (1289, 159, 1), (1292, 159, 1), (1541, 159, 2), (1557, 159, 4), (1546, 159, 3), (1549, 159, 2), (460, 170, 0), (957, 170, 1), (465, 170, 1), (1011, 170, 1), (470, 170, 0), (1211, 170, 1), (1038, 170, 1), (975, 170, 1), (1240, 170, 1), (1103, 170, 2), (1112, 170, 1), (1116, 170, 2), (1125, 170, 0), (1130, 170, 2), (1134, 170, 1), (1138, 170, 3), (1429, 170, 3), (1432, 170, 5), (454, 169, 0), (984, 169, 3), (1089, 169, 1), (1457, 169, 1), (1460, 169, 1), (1151, 169, 1), (966, 169, 0), (991, 169, 1), (1086, 169, 1), (1506, 169, 2), (1225, 169, 1), (1073, 169, 1), (1286, 169, 1), (1282, 169, 2), (1081, 169, 0), (1446, 169, 1), (1450, 169, 2), (1454, 169, 3), (1464, 169, 3), (259, 161, 0), (264, 161, 1), (757, 161, 1), (836, 161, 0), (875, 161, 2), (879, 161, 3), (840, 161, 1), (848, 161, 1), (844, 161, 1), (852, 161, 2), (858, 161, 3), (862, 161, 1), (871, 161, 1), (865, 161, 2), (868, 161, 1), (363, 166, 0), (883, 166, 2), (900, 166, 2), (888, 166, 2), (896, 166, 1), (912, 166, 2), (904, 166, 2), (892, 166, 2), (908, 166, 3), (929, 166, 2), (939, 166, 2), (917, 166, 4), (943, 166, 2), (949, 166, 1), (953, 166, 1), (961, 166, 1), (971, 166, 2), (981, 166, 2), (987, 166, 2), (427, 167, 0), (1016, 167, 2), (1028, 167, 2), (1042, 167, 3), (1034, 167, 1), (1049, 167, 1), (1053, 167, 2), (1057, 167, 2), (1060, 167, 2), (1067, 167, 2), (446, 168, 0), (1006, 168, 2), (1099, 168, 1), (1108, 168, 2), (1120, 168, 2), (1249, 168, 1), (1255, 168, 3), (1258, 168, 3), (583, 171, 0), (1178, 171, 4), (1170, 171, 1), (1174, 171, 0), (1184, 171, 2), (1188, 171, 1), (1193, 171, 1), (1166, 171, 1), (1197, 171, 1), (1313, 171, 5), (1359, 171, 4), (1317, 171, 1), (1323, 171, 2), (1328, 171, 1), (1335, 171, 5), (1332, 171, 5), (1339, 171, 1), (1343, 171, 2), (1355, 171, 4), (635, 172, 0), (1376, 172, 4), (1384, 172, 2), (1393, 172, 1), (1405, 172, 2), (1401, 172, 3), (1412, 172, 3), (669, 173, 0), (1474, 173, 1), (1479, 173, 2), (1489, 173, 2), (1493, 173, 3), (1501, 173, 2), (1513, 173, 1), (1517, 173, 2), (1681, 174, 0), (2152, 174, 1), (1933, 174, 5), (1937, 174, 1), (1941, 174, 1), (1957, 174, 1), (1953, 174, 2), (1945, 174, 1), (1949, 174, 3), (1961, 174, 0), (1965, 174, 2), (1973, 174, 1), (1977, 174, 1), (1969, 174, 2), (1981, 174, 3), (1985, 174, 3), (1993, 174, 0), (2024, 174, 1), (2021, 174, 0), (2009, 174, 1), (2036, 174, 3), (2040, 174, 3), (2032, 174, 2), (2028, 174, 1), (2056, 174, 1), (2060, 174, 4), (2052, 174, 1), (2116, 174, 1), (2100, 174, 2), (2013, 174, 1), (2017, 174, 1), (2005, 174, 1), (2048, 174, 1), (2044, 174, 2), (2001, 174, 0), (2092, 174, 1), (2088, 174, 1), (2084, 174, 1), (2096, 174, 3), (2064, 174, 1), (1997, 174, 0), (1989, 174, 0), (2076, 174, 2), (2072, 174, 2), (2068, 174, 0), (2080, 174, 1), (2112, 174, 1), (2120, 174, 0), (2124, 174, 1), (2128, 174, 2), (2136, 174, 2), (2132, 174, 3), (2144, 174, 2), (2148, 174, 4), (2315, 174, 1), (2140, 174, 3), (2160, 174, 2), (2255, 174, 1), (2156, 174, 3), (2171, 174, 2), (2168, 174, 3), (2164, 174, 3), (2183, 174, 1), (2175, 174, 2), (2179, 174, 3), (2187, 174, 2), (2191, 174, 3), (2195, 174, 5), (2203, 174, 3), (2215, 174, 5), (2211, 174, 4), (2219, 174, 1), (2223, 174, 2), (2227, 174, 2), (2231, 174, 2), (2235, 174, 1), (2207, 174, 5), (2251, 174, 4), (2199, 174, 5), (2239, 174, 4), (2247, 174, 5), (2243, 174, 4), (2259, 174, 5), (2263, 174, 4), (2271, 174, 1), (2267, 174, 1), (2283, 174, 2), (2279, 174, 3), (2287, 174, 3), (2275, 174, 2), (2108, 174, 3), (2104, 174, 0), (2291, 174, 0), (2295, 174, 1), (2303, 174, 3), (2299, 174, 2), (2307, 174, 1), (2327, 174, 2), (2323, 174, 3), (2331, 174, 4), (2319, 174, 2), (2311, 174, 2), (2343, 174, 1), (2347, 174, 1), (2351, 174, 1), (2339, 174, 1), (2335, 174, 1), (2355, 174, 2), (2371, 174, 3), (2367, 174, 1), (2363, 174, 2), (2359, 174, 2), (2375, 174, 2), (2394, 174, 2), (2391, 174, 3), (2399, 174, 1), (2403, 174, 3), (2388, 174, 0), (2384, 174, 1), (2380, 174, 3), (2411, 174, 1), (2407, 174, 3), (2423, 174, 1), (2431, 174, 1), (2451, 174, 1), (2447, 174, 4), (2436, 174, 1), (2427, 174, 1), (2419, 174, 0), (2459, 174, 1), (2467, 174, 1), (2471, 174, 2), (2463, 174, 0), (2455, 174, 0), (2487, 174, 2), (2483, 174, 1), (2499, 174, 1), (2491, 174, 1), (2479, 174, 0), (2503, 174, 4), (2495, 174, 1), (2507, 174, 0), (2511, 174, 0), (2523, 174, 3), (2519, 174, 2), (2515, 174, 1), (2475, 174, 0), (2527, 174, 1), (2415, 174, 0), (2531, 174, 0), (2535, 174, 1), (2539, 174, 1)]
def zT_ToldNet : u_T := fun k => match k with
  | 0 => ("ToldNet", "days", "LToldNet$Days;", true)
  | 1 => ("ToldNet", "tape", "LToldNet$Tape;", true)
  | 2 => ("ToldNet", "text", "LToldNet$Text;", true)
  | 3 => ("ToldNet", "tellings", "[LToldNet$Telling;", true)
  | 4 => ("ToldNet", "told", "I", false)
  | 5 => ("ToldNet", "latestPlace", "I", false)
  | 6 => ("ToldNet", "rule", "LToldNet$Rule;", true)
  | 7 => ("ToldNet", "search", "LToldNet$Search;", true)
  | 8 => ("ToldNet", "sorts", "LToldNet$Sorts;", true)
  | 9 => ("ToldNet", "asker", "LToldNet$Reader;", true)
  | 10 => ("ToldNet", "order", "LToldNet$Order;", true)
  | 11 => ("ToldNet", "draft", "LToldNet$Telling;", true)
  | 12 => ("ToldNet", "parts", "LToldNet$Parting;", true)
  | _ => ("ToldNet", "scratch", "LToldNet$Net;", true)
def zT_Days : u_T := fun k => match k with
  | 0 => ("ToldNet$Days", "marks", "[I", true)
  | 1 => ("ToldNet$Days", "nets", "[LToldNet$Net;", true)
  | 2 => ("ToldNet$Days", "posts", "I", false)
  | 3 => ("ToldNet$Days", "today", "I", false)
  | _ => ("ToldNet$Days", "changes", "I", false)
def zT_Net : u_T := fun k => match k with
  | 0 => ("ToldNet$Net", "rows", "[I", true)
  | _ => ("ToldNet$Net", "posts", "I", false)
def zT_Parting : u_T := fun k => match k with
  | 0 => ("ToldNet$Parting", "box", "[I", true)
  | 1 => ("ToldNet$Parting", "mask", "[I", true)
  | 2 => ("ToldNet$Parting", "fresh", "[I", true)
  | 3 => ("ToldNet$Parting", "posts", "I", false)
  | _ => ("ToldNet$Parting", "boxes", "I", false)
def zT_Telling : u_T := fun k => match k with
  | 0 => ("ToldNet$Telling", "parting", "LToldNet$Parting;", true)
  | 1 => ("ToldNet$Telling", "row", "[I", true)
  | 2 => ("ToldNet$Telling", "words", "[I", true)
  | 3 => ("ToldNet$Telling", "said", "LToldNet$Net;", true)
  | 4 => ("ToldNet$Telling", "excepts", "LToldNet$Net;", true)
  | 5 => ("ToldNet$Telling", "left", "LToldNet$Net;", true)
  | _ => ("ToldNet$Telling", "wordCount", "I", false)
def zT_Tape : u_T := fun k => match k with
  | 0 => ("ToldNet$Tape", "bytes", "[B", true)
  | 1 => ("ToldNet$Tape", "kinds", "[I", true)
  | 2 => ("ToldNet$Tape", "places", "[I", true)
  | 3 => ("ToldNet$Tape", "values", "[J", true)
  | 4 => ("ToldNet$Tape", "quoted", "[J", true)
  | 5 => ("ToldNet$Tape", "size", "I", false)
  | 6 => ("ToldNet$Tape", "tokens", "I", false)
  | 7 => ("ToldNet$Tape", "fault", "I", false)
  | _ => ("ToldNet$Tape", "place", "I", false)
def zT_Text : u_T := fun k => match k with
  | 0 => ("ToldNet$Text", "names", "[J", true)
  | 1 => ("ToldNet$Text", "masks", "[I", true)
  | 2 => ("ToldNet$Text", "starts", "[I", true)
  | 3 => ("ToldNet$Text", "row", "[I", true)
  | 4 => ("ToldNet$Text", "kinds", "[I", true)
  | 5 => ("ToldNet$Text", "firsts", "[I", true)
  | 6 => ("ToldNet$Text", "seconds", "[I", true)
  | 7 => ("ToldNet$Text", "said", "LToldNet$Net;", true)
  | 8 => ("ToldNet$Text", "pairs", "LToldNet$Net;", true)
  | 9 => ("ToldNet$Text", "posts", "I", false)
  | 10 => ("ToldNet$Text", "boxes", "I", false)
  | 11 => ("ToldNet$Text", "placed", "I", false)
  | 12 => ("ToldNet$Text", "seen", "I", false)
  | 13 => ("ToldNet$Text", "wordCount", "I", false)
  | 14 => ("ToldNet$Text", "fault", "I", false)
  | 15 => ("ToldNet$Text", "place", "I", false)
  | _ => ("ToldNet$Text", "sizes", "[I", true)
def zT_Rule : u_T := fun k => match k with
  | 0 => ("ToldNet$Rule", "between", "[I", true)
  | 1 => ("ToldNet$Rule", "each", "I", false)
  | 2 => ("ToldNet$Rule", "boxBits", "I", false)
  | _ => ("ToldNet$Rule", "postBits", "I", false)
def zT_Search : u_T := fun k => match k with
  | 0 => ("ToldNet$Search", "rule", "LToldNet$Rule;", true)
  | 1 => ("ToldNet$Search", "trial", "LToldNet$Telling;", true)
  | 2 => ("ToldNet$Search", "best", "LToldNet$Parting;", true)
  | 3 => ("ToldNet$Search", "lifted", "LToldNet$Parting;", true)
  | 4 => ("ToldNet$Search", "wrongBy", "[I", true)
  | 5 => ("ToldNet$Search", "wrong", "[I", true)
  | _ => ("ToldNet$Search", "shortest", "I", false)
def zT_Sorts : u_T := fun k => match k with
  | 0 => ("ToldNet$Sorts", "free", "[I", true)
  | 1 => ("ToldNet$Sorts", "gone", "[I", true)
  | 2 => ("ToldNet$Sorts", "places", "[I", true)
  | 3 => ("ToldNet$Sorts", "asked", "[I", true)
  | 4 => ("ToldNet$Sorts", "used", "[I", true)
  | 5 => ("ToldNet$Sorts", "hit", "[I", true)
  | 6 => ("ToldNet$Sorts", "usedCount", "I", false)
  | 7 => ("ToldNet$Sorts", "hitCount", "I", false)
  | 8 => ("ToldNet$Sorts", "sure", "LToldNet$Net;", true)
  | 9 => ("ToldNet$Sorts", "open", "LToldNet$Net;", true)
  | 10 => ("ToldNet$Sorts", "seen", "LToldNet$Net;", true)
  | 11 => ("ToldNet$Sorts", "lead", "[I", true)
  | _ => ("ToldNet$Sorts", "leadCount", "I", false)
def zT_Reader : u_T := fun k => match k with
  | 0 => ("ToldNet$Reader", "kinds", "[I", true)
  | 1 => ("ToldNet$Reader", "ones", "[I", true)
  | 2 => ("ToldNet$Reader", "others", "[I", true)
  | 3 => ("ToldNet$Reader", "weights", "[I", true)
  | 4 => ("ToldNet$Reader", "list", "[I", true)
  | 5 => ("ToldNet$Reader", "before", "LToldNet$Net;", true)
  | 6 => ("ToldNet$Reader", "listed", "I", false)
  | _ => ("ToldNet$Reader", "questions", "I", false)
def zT_Order : u_T := fun k => match k with
  | 0 => ("ToldNet$Order", "behind", "[I", true)
  | 1 => ("ToldNet$Order", "built", "LToldNet$Net;", true)
  | 2 => ("ToldNet$Order", "says", "LToldNet$Net;", true)
  | 3 => ("ToldNet$Order", "ahead", "LToldNet$Net;", true)
  | 4 => ("ToldNet$Order", "pairs", "[I", true)
  | 5 => ("ToldNet$Order", "spoken", "[Z", true)
  | 6 => ("ToldNet$Order", "word", "I", false)
  | _ => ("ToldNet$Order", "spare", "I", false)
def zT_Model : u_T := fun k => match k with
  | 0 => ("ToldNetModel", "thrown", "I", false)
  | 1 => ("ToldNetModel", "posts", "I", false)
  | 2 => ("ToldNetModel", "tied", "[Z", true)
  | 3 => ("ToldNetModel", "marks", "[I", true)
  | 4 => ("ToldNetModel", "today", "I", false)
  | 5 => ("ToldNetModel", "changes", "I", false)
  | 6 => ("ToldNetModel", "changeA", "[I", true)
  | 7 => ("ToldNetModel", "changeB", "[I", true)
  | 8 => ("ToldNetModel", "changeIs", "[Z", true)
  | 9 => ("ToldNetModel", "changeDay", "[I", true)
  | 10 => ("ToldNetModel", "dayNet", "[Z", true)
  | 11 => ("ToldNetModel", "tellings", "I", false)
  | 12 => ("ToldNetModel", "boxes", "[I", true)
  | 13 => ("ToldNetModel", "boxOf", "[I", true)
  | 14 => ("ToldNetModel", "size", "[I", true)
  | 15 => ("ToldNetModel", "rowOf", "[I", true)
  | 16 => ("ToldNetModel", "crowd", "[Z", true)
  | 17 => ("ToldNetModel", "chain", "[Z", true)
  | 18 => ("ToldNetModel", "sides", "[Z", true)
  | 19 => ("ToldNetModel", "star", "[Z", true)
  | 20 => ("ToldNetModel", "state", "[I", true)
  | 21 => ("ToldNetModel", "goal", "[Z", true)
  | 22 => ("ToldNetModel", "said", "[Z", true)
  | 23 => ("ToldNetModel", "sortR", "[I", true)
  | 24 => ("ToldNetModel", "sortC", "[I", true)
  | 25 => ("ToldNetModel", "map", "[I", true)
  | 26 => ("ToldNetModel", "label", "[I", true)
  | 27 => ("ToldNetModel", "kept", "[I", true)
  | 28 => ("ToldNetModel", "questions", "I", false)
  | 29 => ("ToldNetModel", "questionKind", "[I", true)
  | 30 => ("ToldNetModel", "questionA", "[I", true)
  | 31 => ("ToldNetModel", "questionB", "[I", true)
  | 32 => ("ToldNetModel", "questionWeight", "[I", true)
  | 33 => ("ToldNetModel", "taped", "I", false)
  | 34 => ("ToldNetModel", "tape", "[I", true)
  | 35 => ("ToldNetModel", "tokens", "I", false)
  | 36 => ("ToldNetModel", "tokenSort", "[I", true)
  | 37 => ("ToldNetModel", "tokenFrom", "[I", true)
  | 38 => ("ToldNetModel", "tokenTo", "[I", true)
  | 39 => ("ToldNetModel", "tokenWhat", "[I", true)
  | 40 => ("ToldNetModel", "faultPlace", "I", false)
  | 41 => ("ToldNetModel", "overs", "[I", true)
  | 42 => ("ToldNetModel", "isLaid", "[Z", true)
  | 43 => ("ToldNetModel", "without", "[I", true)
  | 44 => ("ToldNetModel", "bestMany", "I", false)
  | 45 => ("ToldNetModel", "pieceLeast", "[I", true)
  | 46 => ("ToldNetModel", "pieceSum", "[I", true)
  | 47 => ("ToldNetModel", "wordSort", "I", false)
  | 48 => ("ToldNetModel", "wordA", "I", false)
  | 49 => ("ToldNetModel", "wordB", "I", false)
  | 50 => ("ToldNetModel", "words", "I", false)
  | 51 => ("ToldNetModel", "asked", "[I", true)
  | 52 => ("ToldNetModel", "askedTold", "I", false)
  | 53 => ("ToldNetModel", "link", "[Z", true)
  | 54 => ("ToldNetModel", "far", "[I", true)
  | 55 => ("ToldNetModel", "leadMany", "I", false)
  | 56 => ("ToldNetModel", "savedState", "[I", true)
  | 57 => ("ToldNetModel", "colour", "[I", true)
  | 58 => ("ToldNetModel", "nextColour", "[I", true)
  | 59 => ("ToldNetModel", "weight", "[I", true)
  | 60 => ("ToldNetModel", "order", "[I", true)
  | 61 => ("ToldNetModel", "bestOrder", "[I", true)
  | 62 => ("ToldNetModel", "isHeard", "[Z", true)
  | 63 => ("ToldNetModel", "isSpoken", "[Z", true)
  | 64 => ("ToldNetModel", "spared", "I", false)
  | 65 => ("ToldNetModel", "tokenName", "[J", true)
  | 66 => ("ToldNetModel", "fault", "I", false)
  | 67 => ("ToldNetModel", "head", "I", false)
  | 68 => ("ToldNetModel", "textBoxes", "I", false)
  | 69 => ("ToldNetModel", "textName", "[J", true)
  | 70 => ("ToldNetModel", "textSize", "[I", true)
  | 71 => ("ToldNetModel", "textOf", "[I", true)
  | 72 => ("ToldNetModel", "textPlace", "[I", true)
  | 73 => ("ToldNetModel", "textWords", "I", false)
  | 74 => ("ToldNetModel", "textSort", "[I", true)
  | 75 => ("ToldNetModel", "textA", "[I", true)
  | 76 => ("ToldNetModel", "textB", "[I", true)
  | 77 => ("ToldNetModel", "textPairs", "I", false)
  | 78 => ("ToldNetModel", "pairA", "[I", true)
  | 79 => ("ToldNetModel", "pairB", "[I", true)
  | 80 => ("ToldNetModel", "pairAlso", "[Z", true)
  | _ => ("ToldNetModel", "pairPlace", "[I", true)
def zCl : List vw_C := [("ToldNet", zT_ToldNet, 14), ("ToldNet$Days", zT_Days, 5), ("ToldNet$Net", zT_Net, 2), ("ToldNet$Parting", zT_Parting, 5), ("ToldNet$Telling", zT_Telling, 7), ("ToldNet$Tape", zT_Tape, 9), ("ToldNet$Text", zT_Text, 17), ("ToldNet$Rule", zT_Rule, 4), ("ToldNet$Search", zT_Search, 7), ("ToldNet$Sorts", zT_Sorts, 13), ("ToldNet$Reader", zT_Reader, 8), ("ToldNet$Order", zT_Order, 8), ("ToldNetModel", zT_Model, 82)]
def zClP : List (List Nat) := [[721, 723, 725, 727, 729, 731, 733, 735, 737, 739, 741, 743, 745, 747], [244, 246, 248, 250, 252], [217, 219], [495, 497, 499, 501, 503], [540, 542, 544, 546, 548, 550, 552], [338, 340, 342, 344, 346, 348, 350, 352, 354], [386, 388, 390, 394, 396, 398, 400, 402, 404, 406, 408, 410, 412, 414, 416, 418, 392], [433, 435, 437, 439], [564, 566, 568, 570, 572, 574, 576], [604, 606, 608, 610, 612, 614, 616, 618, 620, 622, 624, 626, 628], [648, 650, 652, 654, 656, 658, 660, 662], [684, 686, 688, 690, 692, 694, 696, 698], [1765, 1767, 1769, 1771, 1773, 1775, 1777, 1779, 1781, 1783, 1785, 1787, 1789, 1791, 1793, 1795, 1797, 1799, 1801, 1803, 1805, 1807, 1809, 1811, 1813, 1815, 1817, 1819, 1821, 1823, 1825, 1827, 1829, 1831, 1833, 1835, 1837, 1839, 1841, 1843, 1845, 1847, 1849, 1851, 1853, 1855, 1857, 1859, 1861, 1863, 1865, 1867, 1869, 1871, 1873, 1875, 1877, 1879, 1881, 1883, 1885, 1887, 1889, 1891, 1893, 1895, 1897, 1899, 1901, 1903, 1905, 1907, 1909, 1911, 1913, 1915, 1917, 1919, 1921, 1923, 1925, 1927]]
def zNest : List (String × Nat × MethodName) := [("ToldNet$Days", 21, ⟨"ToldNet$Net", "<init>", "()V"⟩), ("ToldNet", 25, ⟨"ToldNet$Text", "<init>", "()V"⟩), ("ToldNet$Text", 41, ⟨"ToldNet$Net", "<init>", "()V"⟩), ("ToldNet", 45, ⟨"ToldNet$Rule", "<init>", "()V"⟩), ("ToldNet", 52, ⟨"ToldNet$Search", "<init>", "()V"⟩), ("ToldNet$Search", 11, ⟨"ToldNet$Rule", "<init>", "()V"⟩), ("ToldNet$Search", 20, ⟨"ToldNet$Telling", "<init>", "()V"⟩), ("ToldNet$Telling", 27, ⟨"ToldNet$Net", "<init>", "()V"⟩), ("ToldNet", 59, ⟨"ToldNet$Sorts", "<init>", "()V"⟩), ("ToldNet$Sorts", 39, ⟨"ToldNet$Net", "<init>", "()V"⟩), ("ToldNet", 66, ⟨"ToldNet$Reader", "<init>", "()V"⟩), ("ToldNet$Reader", 29, ⟨"ToldNet$Net", "<init>", "()V"⟩), ("ToldNet", 73, ⟨"ToldNet$Order", "<init>", "()V"⟩), ("ToldNet$Order", 17, ⟨"ToldNet$Net", "<init>", "()V"⟩), ("ToldNet", 78, ⟨"ToldNet$Telling", "<init>", "()V"⟩), ("ToldNet", 92, ⟨"ToldNet$Net", "<init>", "()V"⟩), ("ToldNet$Rule", 30, ⟨"ToldNet", "exceptBits", "(I)I"⟩), ("ToldNet$Rule", 45, ⟨"ToldNet", "bits", "(I)I"⟩), ("ToldNet$Rule", 131, ⟨"ToldNet", "leastOf", "(I)I"⟩), ("ToldNet$Telling", 65, ⟨"ToldNet", "bits", "(I)I"⟩), ("ToldNet$Telling", 119, ⟨"ToldNet", "exceptBits", "(I)I"⟩), ("ToldNet$Sorts", 133, ⟨"ToldNet", "bits", "(I)I"⟩), ("ToldNet$Search", 114, ⟨"ToldNet", "exceptBits", "(I)I"⟩), ("ToldNet$Search", 118, ⟨"ToldNet", "bits", "(I)I"⟩), ("ToldNet$Net", 41, ⟨"ToldNet", "leastOf", "(I)I"⟩), ("ToldNet$Order", 114, ⟨"ToldNet", "exceptBits", "(I)I"⟩)]
def zNestP : List Nat := [200, 361, 366, 425, 444, 449, 452, 507, 581, 586, 633, 638, 667, 672, 702, 706, 1017, 1023, 1061, 1082, 1090, 1199, 1261, 1262, 1278, 1518]
def zpf_ToldNet : List (Nat × Nat × Nat × Nat) := [(146, 2, 0, 207), (138, 1, 0, 236), (164, 1, 2, 239), (128, 1, 3, 241), (114, 1, 4, 243), (97, 5, 5, 330), (158, 5, 7, 335), (161, 5, 8, 337), (171, 6, 14, 383), (172, 6, 15, 385), (213, 3, 0, 476), (366, 3, 4, 494), (177, 4, 0, 513), (222, 4, 1, 518), (243, 4, 2, 521), (269, 4, 3, 527), (255, 4, 4, 532), (228, 4, 6, 538), (311, 9, 0, 588), (314, 9, 1, 590), (332, 9, 11, 601), (329, 9, 12, 603), (107, 10, 7, 647), (380, 11, 6, 681), (384, 11, 7, 683), (10, 0, 0, 707), (19, 0, 1, 708), (26, 0, 2, 709), (32, 0, 3, 710), (36, 0, 4, 711), (40, 0, 5, 712), (46, 0, 6, 713), (53, 0, 7, 714), (60, 0, 8, 715), (67, 0, 9, 716), (74, 0, 10, 717), (79, 0, 11, 718), (86, 0, 12, 719), (93, 0, 13, 720)]
def zpm_ToldNet : List (Nat × Nat × Nat × Nat × Nat × Nat × Nat × Nat) := [(100, 0, 119, 5, 1, 754, 755, 756), (104, 0, 55, 1, 1, 766, 224, 225), (110, 0, 60, 1, 2, 771, 772, 773), (117, 0, 57, 1, 0, 779, 780, 781), (121, 0, 66, 2, 2, 783, 784, 785), (124, 0, 67, 2, 2, 787, 788, 789), (131, 0, 56, 1, 0, 795, 796, 797), (134, 0, 59, 1, 1, 810, 776, 777), (142, 0, 58, 1, 1, 815, 816, 817), (149, 1, 0, 0, 1, 819, 820, 0), (155, 0, 120, 5, 0, 833, 834, 835), (167, 0, 133, 6, 2, 880, 881, 882), (173, 0, 146, 6, 1, 950, 951, 952), (180, 0, 81, 3, 1, 1001, 955, 956), (183, 0, 82, 3, 1, 1002, 463, 464), (186, 0, 162, 8, 2, 1003, 1004, 1005), (190, 0, 165, 8, 2, 1117, 1118, 1119), (194, 0, 93, 3, 2, 1127, 1128, 1129), (198, 0, 152, 7, 2, 1139, 1014, 1015), (202, 0, 50, 0, 1, 1144, 1146, 34), (206, 0, 103, 4, 1, 1148, 1149, 1150), (209, 0, 176, 9, 1, 1163, 1164, 1165), (216, 0, 85, 3, 1, 1208, 1209, 1210), (219, 0, 86, 3, 1, 1212, 1036, 1037), (225, 0, 87, 3, 1, 1213, 973, 974), (246, 1, 100, 0, 1, 1663, 1088, 0), (249, 1, 101, 0, 1, 1664, 1456, 0), (252, 1, 102, 0, 1, 1665, 1459, 0), (258, 0, 72, 2, 1, 1271, 1272, 1273), (263, 1, 74, 0, 1, 1674, 1288, 0), (266, 1, 75, 0, 1, 1675, 1291, 0), (272, 0, 110, 4, 1, 1676, 1284, 1285), (275, 0, 108, 4, 1, 1222, 1223, 1224), (279, 0, 65, 2, 2, 1226, 1075, 1076), (283, 0, 70, 2, 0, 1227, 1092, 1093), (287, 0, 89, 3, 2, 1232, 1101, 1102), (290, 0, 88, 3, 1, 1237, 1238, 1239), (293, 0, 90, 3, 1, 1241, 1110, 1111), (296, 0, 166, 8, 1, 1246, 1247, 1248), (300, 0, 111, 4, 2, 1279, 1280, 1281), (304, 0, 171, 9, 1, 1299, 1168, 1169), (307, 1, 170, 0, 4, 1300, 1177, 0), (317, 0, 61, 1, 3, 1305, 1306, 1307), (321, 0, 178, 9, 5, 1310, 1311, 1312), (325, 0, 187, 9, 4, 1352, 1353, 1354), (335, 0, 189, 10, 4, 1373, 1374, 1375), (339, 0, 190, 10, 2, 1381, 1382, 1383), (343, 0, 191, 10, 1, 1390, 1391, 1392), (346, 0, 193, 10, 3, 1398, 1399, 1400), (350, 0, 194, 10, 3, 1409, 1410, 1411), (353, 0, 96, 3, 3, 1426, 1427, 1428), (357, 0, 109, 4, 1, 1437, 1071, 1072), (360, 0, 112, 4, 0, 1438, 1079, 1080), (363, 0, 113, 4, 1, 1443, 1444, 1445), (369, 0, 196, 11, 1, 1471, 1472, 1473), (372, 0, 198, 11, 2, 1486, 1487, 1488), (376, 0, 200, 11, 2, 1498, 1499, 1500), (387, 0, 71, 2, 1, 1529, 1530, 1531), (390, 0, 83, 3, 1, 1537, 1009, 1010), (393, 0, 76, 2, 2, 1538, 1539, 1540), (397, 0, 49, 0, 1, 1568, 1570, 54), (400, 1, 51, 0, 1, 1020, 1021, 0)]
def zpk_ToldNet : List (Nat × Nat × Int × Nat) := [(383, 0, -100000, 1524)]
def zpf_Days : List (Nat × Nat × Nat × Nat) := [(9, 1, 0, 235), (17, 1, 1, 237), (26, 1, 2, 238), (30, 1, 3, 240), (33, 1, 4, 242)]
def zpm_Days : List (Nat × Nat × Nat × Nat × Nat × Nat × Nat × Nat) := [(22, 0, 55, 1, 1, 223, 224, 225), (36, 0, 63, 2, 1, 227, 228, 229), (39, 1, 1, 0, 2, 234, 232, 0), (45, 0, 64, 2, 1, 799, 800, 801), (49, 0, 59, 1, 1, 775, 776, 777), (53, 0, 60, 1, 2, 1309, 772, 773)]
def zpk_Days : List (Nat × Nat × Int × Nat) := []
def zpf_Net : List (Nat × Nat × Nat × Nat) := [(9, 2, 0, 204), (15, 2, 1, 211)]
def zpm_Net : List (Nat × Nat × Nat × Nat × Nat × Nat × Nat × Nat) := [(19, 1, 1, 0, 2, 231, 232, 0), (25, 5, 0, 0, 0, 803, 0, 0), (31, 1, 0, 0, 1, 1095, 820, 0), (37, 1, 73, 0, 2, 1275, 1276, 0), (41, 2, 53, 0, 1, 24, 1062, 0), (44, 0, 64, 2, 1, 1542, 800, 801), (48, 0, 70, 2, 0, 1543, 1092, 1093), (52, 1, 78, 0, 3, 1544, 1545, 0), (56, 0, 72, 2, 1, 1551, 1272, 1273), (59, 1, 75, 0, 1, 1552, 1291, 0), (62, 1, 74, 0, 1, 1553, 1288, 0), (65, 0, 77, 2, 4, 1554, 1556, 53), (69, 0, 66, 2, 2, 1558, 784, 785), (73, 0, 67, 2, 2, 1559, 788, 789), (77, 1, 79, 0, 2, 1547, 1548, 0)]
def zpk_Net : List (Nat × Nat × Int × Nat) := [(80, 0, 1103515245, 1550)]
def zpf_Parting : List (Nat × Nat × Nat × Nat) := [(70, 2, 0, 210), (59, 2, 1, 216), (9, 3, 0, 471), (15, 3, 1, 477), (18, 3, 2, 482), (25, 3, 3, 483), (38, 3, 4, 491)]
def zpm_Parting : List (Nat × Nat × Nat × Nat × Nat × Nat × Nat × Nat) := [(21, 0, 82, 3, 1, 462, 463, 464), (29, 0, 84, 3, 0, 467, 468, 469), (32, 1, 1, 0, 2, 466, 232, 0), (41, 5, 0, 0, 0, 1012, 0, 0), (47, 1, 0, 0, 1, 976, 820, 0), (53, 3, 0, 0, 0, 1126, 934, 0), (62, 0, 94, 3, 1, 1131, 1133, 32), (66, 0, 95, 3, 3, 1135, 1137, 33), (73, 1, 97, 0, 5, 1430, 1431, 0)]
def zpk_Parting : List (Nat × Nat × Int × Nat) := []
def zpf_Telling : List (Nat × Nat × Nat × Nat) := [(78, 3, 1, 481), (55, 3, 3, 486), (62, 3, 4, 492), (12, 4, 0, 508), (18, 4, 1, 515), (22, 4, 2, 519), (28, 4, 3, 523), (32, 4, 4, 528), (35, 4, 5, 533), (38, 4, 6, 536)]
def zpm_Telling : List (Nat × Nat × Nat × Nat × Nat × Nat × Nat × Nat) := [(42, 0, 83, 3, 1, 1152, 1009, 1010), (46, 5, 0, 0, 0, 1153, 0, 0), (52, 0, 64, 2, 1, 1154, 800, 801), (58, 0, 63, 2, 1, 967, 228, 229), (65, 2, 51, 0, 1, 19, 1021, 0), (69, 1, 100, 0, 1, 1087, 1088, 0), (72, 1, 101, 0, 1, 1455, 1456, 0), (75, 1, 102, 0, 1, 1458, 1459, 0), (81, 0, 68, 2, 2, 1507, 919, 920), (85, 0, 87, 3, 1, 1466, 973, 974), (88, 0, 86, 3, 1, 1465, 1036, 1037), (91, 0, 69, 2, 3, 1508, 923, 924), (95, 0, 65, 2, 2, 1074, 1075, 1076), (99, 1, 74, 0, 1, 1287, 1288, 0), (102, 1, 75, 0, 1, 1290, 1291, 0), (105, 0, 66, 2, 2, 1293, 784, 785), (109, 0, 110, 4, 1, 1283, 1284, 1285), (113, 0, 67, 2, 2, 1294, 788, 789), (116, 0, 106, 4, 1, 1083, 1084, 1085), (119, 2, 52, 0, 1, 20, 1018, 0), (122, 0, 70, 2, 0, 1091, 1092, 1093), (126, 0, 114, 4, 2, 1447, 1449, 46), (130, 0, 115, 4, 3, 1451, 1453, 47), (134, 0, 116, 4, 3, 1461, 1463, 48)]
def zpk_Telling : List (Nat × Nat × Int × Nat) := []
def zpf_Tape : List (Nat × Nat × Nat × Nat) := [(11, 5, 0, 321), (15, 5, 1, 322), (19, 5, 2, 324), (22, 5, 3, 326), (26, 5, 4, 328), (29, 5, 5, 329), (33, 5, 6, 332), (36, 5, 7, 334), (39, 5, 8, 336)]
def zpm_Tape : List (Nat × Nat × Nat × Nat × Nat × Nat × Nat × Nat) := [(44, 1, 118, 0, 1, 262, 263, 0), (74, 0, 123, 5, 1, 837, 839, 0), (78, 0, 124, 5, 1, 845, 847, 2), (81, 0, 126, 5, 2, 849, 851, 3), (85, 0, 127, 5, 3, 855, 857, 4), (89, 1, 130, 0, 2, 863, 864, 0), (93, 1, 129, 0, 1, 869, 870, 0), (99, 0, 121, 5, 2, 872, 874, 6), (103, 0, 122, 5, 3, 876, 878, 7), (107, 0, 125, 5, 1, 841, 843, 1), (114, 0, 128, 5, 1, 859, 861, 5), (118, 1, 131, 0, 1, 866, 867, 0)]
def zpk_Tape : List (Nat × Nat × Int × Nat) := [(66, 1, 27, 275), (72, 1, 97, 314), (110, 1, 10, 853), (112, 1, 48, 854)]
def zpf_Text : List (Nat × Nat × Nat × Nat) := [(99, 5, 1, 323), (124, 5, 2, 325), (117, 5, 3, 327), (92, 5, 5, 331), (75, 5, 6, 333), (13, 6, 0, 367), (17, 6, 1, 368), (21, 6, 2, 369), (24, 6, 16, 370), (27, 6, 3, 371), (30, 6, 4, 372), (33, 6, 5, 373), (36, 6, 6, 374), (42, 6, 7, 375), (46, 6, 8, 376), (49, 6, 9, 377), (53, 6, 10, 378), (56, 6, 11, 379), (59, 6, 12, 380), (62, 6, 13, 381), (65, 6, 14, 382), (68, 6, 15, 384), (171, 3, 0, 475), (160, 4, 0, 514), (190, 4, 1, 517), (220, 4, 2, 522), (204, 4, 3, 526), (209, 4, 4, 531), (219, 4, 6, 539)]
def zpm_Text : List (Nat × Nat × Nat × Nat × Nat × Nat × Nat × Nat) := [(71, 0, 63, 2, 1, 884, 228, 229), (78, 0, 135, 6, 2, 885, 887, 8), (82, 3, 0, 0, 0, 933, 934, 0), (88, 0, 145, 6, 1, 946, 948, 19), (95, 0, 134, 6, 2, 897, 899, 11), (100, 0, 139, 6, 2, 889, 891, 9), (103, 0, 140, 6, 3, 905, 907, 13), (107, 0, 141, 6, 2, 926, 928, 16), (111, 0, 142, 6, 2, 936, 938, 17), (114, 0, 144, 6, 2, 940, 942, 18), (120, 0, 136, 6, 1, 893, 895, 10), (127, 0, 138, 6, 2, 901, 903, 12), (130, 0, 137, 6, 2, 909, 911, 14), (133, 1, 0, 0, 1, 913, 820, 0), (139, 0, 143, 6, 4, 914, 916, 15), (143, 0, 68, 2, 2, 918, 919, 920), (146, 0, 69, 2, 3, 922, 923, 924), (150, 4, 0, 0, 0, 930, 931, 0), (153, 0, 66, 2, 2, 944, 784, 785), (157, 0, 67, 2, 2, 945, 788, 789), (166, 0, 81, 3, 1, 954, 955, 956), (174, 0, 147, 6, 1, 958, 960, 20), (177, 0, 84, 3, 0, 962, 468, 469), (180, 0, 104, 4, 0, 963, 964, 965), (183, 0, 148, 6, 2, 968, 970, 21), (187, 0, 87, 3, 1, 972, 973, 974), (191, 5, 0, 0, 0, 977, 0, 0), (197, 0, 149, 6, 2, 978, 980, 22), (200, 1, 150, 0, 2, 985, 986, 0), (205, 0, 64, 2, 1, 992, 800, 801), (212, 1, 99, 0, 3, 982, 983, 0), (216, 0, 105, 4, 1, 988, 989, 990)]
def zpk_Text : List (Nat × Nat × Int × Nat) := []
def zpf_Rule : List (Nat × Nat × Nat × Nat) := [(90, 2, 0, 205), (25, 2, 1, 212), (9, 7, 0, 429), (15, 7, 1, 430), (19, 7, 2, 431), (22, 7, 3, 432), (87, 3, 0, 473), (93, 3, 1, 479), (86, 3, 3, 485), (40, 3, 4, 489), (34, 4, 0, 512), (128, 4, 1, 516), (116, 4, 3, 525)]
def zpm_Rule : List (Nat × Nat × Nat × Nat × Nat × Nat × Nat × Nat) := [(30, 2, 52, 0, 1, 16, 1018, 0), (45, 2, 51, 0, 1, 17, 1021, 0), (48, 0, 104, 4, 0, 1024, 964, 965), (51, 0, 153, 7, 2, 1025, 1027, 23), (55, 0, 155, 7, 1, 1031, 1033, 24), (59, 0, 156, 7, 1, 1046, 1048, 26), (62, 0, 157, 7, 2, 1050, 1052, 27), (66, 0, 158, 7, 2, 1054, 1056, 28), (69, 0, 160, 7, 2, 1064, 1066, 29), (72, 0, 109, 4, 1, 1070, 1071, 1072), (76, 0, 112, 4, 0, 1078, 1079, 1080), (80, 1, 1, 0, 2, 1029, 232, 0), (96, 1, 0, 0, 1, 1030, 820, 0), (101, 0, 86, 3, 1, 1035, 1036, 1037), (104, 0, 154, 7, 3, 1039, 1041, 25), (108, 1, 99, 0, 3, 1043, 983, 0), (112, 0, 105, 4, 1, 1044, 989, 990), (120, 0, 68, 2, 2, 1045, 919, 920), (124, 1, 159, 0, 2, 1058, 1059, 0), (131, 2, 53, 0, 1, 18, 1062, 0), (134, 0, 66, 2, 2, 1068, 784, 785), (138, 0, 69, 2, 3, 1069, 923, 924)]
def zpk_Rule : List (Nat × Nat × Int × Nat) := []
def zpf_Search : List (Nat × Nat × Nat × Nat) := [(129, 2, 0, 208), (49, 2, 1, 213), (85, 3, 0, 474), (132, 3, 1, 480), (128, 3, 3, 487), (75, 3, 4, 490), (46, 4, 0, 510), (12, 8, 0, 557), (21, 8, 1, 558), (28, 8, 2, 559), (32, 8, 3, 560), (35, 8, 4, 561), (39, 8, 5, 562), (42, 8, 6, 563)]
def zpm_Search : List (Nat × Nat × Nat × Nat × Nat × Nat × Nat × Nat) := [(54, 0, 81, 3, 1, 1007, 955, 956), (58, 0, 83, 3, 1, 1008, 1009, 1010), (62, 0, 152, 7, 2, 1013, 1014, 1015), (66, 0, 163, 8, 1, 1096, 1098, 30), (71, 0, 164, 8, 2, 1105, 1107, 31), (78, 0, 89, 3, 2, 1100, 1101, 1102), (82, 0, 90, 3, 1, 1109, 1110, 1111), (88, 0, 91, 3, 2, 1113, 1114, 1115), (91, 0, 82, 3, 1, 1121, 463, 464), (94, 0, 92, 3, 0, 1122, 1123, 1124), (98, 1, 1, 0, 2, 1250, 232, 0), (104, 4, 0, 0, 0, 1251, 931, 0), (110, 0, 167, 8, 3, 1252, 1254, 38), (114, 2, 52, 0, 1, 22, 1018, 0), (118, 2, 51, 0, 1, 23, 1021, 0), (121, 1, 168, 0, 3, 1256, 1257, 0), (125, 0, 86, 3, 1, 1259, 1036, 1037), (135, 1, 0, 0, 1, 1260, 820, 0)]
def zpk_Search : List (Nat × Nat × Int × Nat) := [(70, 0, 1000000, 1104)]
def zpf_Sorts : List (Nat × Nat × Nat × Nat) := [(144, 2, 0, 209), (171, 2, 1, 215), (62, 3, 0, 472), (79, 3, 3, 484), (130, 3, 4, 493), (56, 4, 0, 509), (82, 4, 3, 524), (96, 4, 4, 529), (89, 4, 5, 534), (11, 9, 0, 587), (15, 9, 1, 589), (18, 9, 2, 591), (21, 9, 3, 592), (24, 9, 4, 593), (27, 9, 5, 594), (30, 9, 6, 595), (34, 9, 7, 596), (40, 9, 8, 597), (44, 9, 9, 598), (47, 9, 10, 599), (50, 9, 11, 600), (53, 9, 12, 602)]
def zpm_Sorts : List (Nat × Nat × Nat × Nat × Nat × Nat × Nat × Nat) := [(67, 4, 0, 0, 0, 1179, 931, 0), (73, 3, 0, 0, 0, 1180, 934, 0), (76, 0, 172, 9, 0, 1171, 1173, 35), (85, 0, 66, 2, 2, 1175, 784, 785), (92, 1, 170, 0, 4, 1176, 1177, 0), (99, 0, 173, 9, 2, 1181, 1183, 36), (103, 0, 174, 9, 1, 1185, 1187, 37), (107, 0, 63, 2, 1, 1189, 228, 229), (110, 0, 67, 2, 2, 1190, 788, 789), (114, 1, 175, 0, 1, 1191, 1192, 0), (118, 0, 171, 9, 1, 1167, 1168, 1169), (122, 0, 177, 9, 1, 1194, 1195, 1196), (126, 0, 112, 4, 0, 1198, 1079, 1080), (133, 2, 51, 0, 1, 21, 1021, 0), (137, 0, 180, 9, 1, 1314, 1316, 39), (141, 0, 181, 9, 2, 1320, 1322, 40), (147, 1, 0, 0, 1, 1324, 820, 0), (152, 0, 182, 9, 1, 1325, 1327, 41), (155, 0, 184, 9, 5, 1329, 1331, 42), (159, 0, 178, 9, 5, 1360, 1311, 1312), (163, 0, 64, 2, 1, 1318, 800, 801), (167, 0, 65, 2, 2, 1319, 1075, 1076), (172, 1, 183, 0, 5, 1333, 1334, 0), (175, 0, 185, 9, 1, 1336, 1338, 43), (178, 0, 186, 9, 2, 1340, 1342, 44), (181, 0, 179, 9, 4, 1356, 1357, 1358), (185, 0, 70, 2, 0, 1361, 1092, 1093), (188, 0, 72, 2, 1, 1362, 1272, 1273), (191, 0, 110, 4, 1, 1363, 1284, 1285), (194, 0, 111, 4, 2, 1364, 1280, 1281)]
def zpk_Sorts : List (Nat × Nat × Int × Nat) := []
def zpf_Reader : List (Nat × Nat × Nat × Nat) := [(56, 4, 4, 530), (47, 4, 5, 535), (11, 10, 0, 639), (15, 10, 1, 640), (18, 10, 2, 641), (21, 10, 3, 642), (24, 10, 4, 643), (30, 10, 5, 644), (34, 10, 6, 645), (38, 10, 7, 646)]
def zpm_Reader : List (Nat × Nat × Nat × Nat × Nat × Nat × Nat × Nat) := [(41, 0, 179, 9, 4, 1385, 1357, 1358), (52, 0, 64, 2, 1, 1394, 800, 801), (59, 0, 70, 2, 0, 1395, 1092, 1093), (63, 4, 0, 0, 0, 1396, 931, 0), (69, 0, 72, 2, 1, 1397, 1272, 1273), (73, 0, 111, 4, 2, 1406, 1280, 1281), (77, 0, 192, 10, 2, 1402, 1404, 45), (81, 0, 176, 9, 1, 1407, 1164, 1165), (85, 0, 190, 10, 2, 1408, 1382, 1383), (89, 0, 110, 4, 1, 1413, 1284, 1285)]
def zpk_Reader : List (Nat × Nat × Int × Nat) := []
def zpf_Order : List (Nat × Nat × Nat × Nat) := [(74, 2, 0, 206), (71, 2, 1, 214), (68, 3, 1, 478), (53, 3, 4, 488), (49, 4, 0, 511), (94, 4, 2, 520), (91, 4, 6, 537), (11, 11, 0, 674), (18, 11, 1, 675), (22, 11, 2, 676), (25, 11, 3, 677), (28, 11, 4, 678), (31, 11, 5, 679), (35, 11, 6, 680), (40, 11, 7, 682)]
def zpm_Order : List (Nat × Nat × Nat × Nat × Nat × Nat × Nat × Nat) := [(43, 0, 108, 4, 1, 1475, 1223, 1224), (58, 0, 197, 11, 2, 1476, 1478, 49), (62, 4, 0, 0, 0, 1481, 931, 0), (77, 1, 0, 0, 1, 1480, 820, 0), (83, 0, 199, 11, 3, 1490, 1492, 50), (87, 0, 63, 2, 1, 1502, 228, 229), (97, 0, 107, 4, 2, 1503, 1504, 1505), (101, 5, 0, 0, 0, 1509, 0, 0), (107, 0, 201, 11, 1, 1510, 1512, 51), (111, 0, 202, 11, 2, 1514, 1516, 52), (114, 2, 52, 0, 1, 25, 1018, 0), (117, 0, 106, 4, 1, 1519, 1084, 1085)]
def zpk_Order : List (Nat × Nat × Int × Nat) := [(39, 0, -100000, 673)]
def zpf_Model : List (Nat × Nat × Nat × Nat) := [(199, 12, 0, 1683), (7, 12, 1, 1684), (13, 12, 2, 1685), (17, 12, 3, 1686), (213, 12, 4, 1687), (216, 12, 5, 1688), (21, 12, 6, 1689), (24, 12, 7, 1690), (27, 12, 8, 1691), (30, 12, 9, 1692), (33, 12, 10, 1693), (219, 12, 11, 1694), (36, 12, 12, 1695), (39, 12, 13, 1696), (42, 12, 14, 1697), (45, 12, 15, 1698), (48, 12, 16, 1699), (51, 12, 17, 1700), (54, 12, 18, 1701), (57, 12, 19, 1702), (60, 12, 20, 1703), (63, 12, 21, 1704), (66, 12, 22, 1705), (69, 12, 23, 1706), (72, 12, 24, 1707), (75, 12, 25, 1708), (78, 12, 26, 1709), (81, 12, 27, 1710), (222, 12, 28, 1711), (84, 12, 29, 1712), (87, 12, 30, 1713), (90, 12, 31, 1714), (93, 12, 32, 1715), (202, 12, 33, 1716), (96, 12, 34, 1717), (498, 12, 35, 1718), (99, 12, 36, 1719), (102, 12, 37, 1720), (105, 12, 38, 1721), (108, 12, 39, 1722), (111, 12, 40, 1723), (114, 12, 41, 1724), (117, 12, 42, 1725), (120, 12, 43, 1726), (298, 12, 44, 1727), (123, 12, 45, 1728), (126, 12, 46, 1729), (339, 12, 47, 1730), (342, 12, 48, 1731), (345, 12, 49, 1732), (332, 12, 50, 1733), (129, 12, 51, 1734), (366, 12, 52, 1735), (132, 12, 53, 1736), (135, 12, 54, 1737), (408, 12, 55, 1738), (138, 12, 56, 1739), (141, 12, 57, 1740), (144, 12, 58, 1741), (147, 12, 59, 1742), (150, 12, 60, 1743), (153, 12, 61, 1744), (156, 12, 62, 1745), (159, 12, 63, 1746), (466, 12, 64, 1747), (162, 12, 65, 1748), (535, 12, 66, 1749), (538, 12, 67, 1750), (554, 12, 68, 1751), (166, 12, 69, 1752), (169, 12, 70, 1753), (172, 12, 71, 1754), (175, 12, 72, 1755), (566, 12, 73, 1756), (178, 12, 74, 1757), (181, 12, 75, 1758), (184, 12, 76, 1759), (578, 12, 77, 1760), (187, 12, 78, 1761), (190, 12, 79, 1762), (193, 12, 80, 1763), (196, 12, 81, 1764)]
def zpm_Model : List (Nat × Nat × Nat × Nat × Nat × Nat × Nat × Nat) := [(205, 0, 206, 12, 1, 1934, 1936, 56), (209, 0, 208, 12, 1, 1954, 1956, 58), (225, 0, 209, 12, 2, 1950, 1952, 57), (229, 0, 214, 12, 1, 1970, 1972, 59), (232, 0, 215, 12, 1, 1974, 1976, 60), (235, 1, 220, 0, 1, 2022, 2023, 0), (239, 0, 223, 12, 3, 2033, 2035, 71), (243, 0, 225, 12, 2, 2029, 2031, 70), (247, 0, 226, 12, 1, 2025, 2027, 69), (250, 0, 228, 12, 4, 2057, 2059, 77), (254, 0, 227, 12, 1, 2053, 2055, 76), (257, 0, 221, 12, 0, 2018, 2020, 68), (261, 0, 222, 12, 1, 2006, 2008, 65), (264, 0, 232, 12, 1, 2010, 2012, 66), (267, 0, 233, 12, 1, 2014, 2016, 67), (270, 0, 224, 12, 3, 2037, 2039, 72), (273, 0, 236, 12, 2, 2041, 2043, 73), (276, 0, 235, 12, 1, 2045, 2047, 74), (279, 0, 234, 12, 1, 2002, 2004, 64), (282, 0, 229, 12, 1, 2049, 2051, 75), (285, 0, 239, 12, 1, 2085, 2087, 82), (288, 0, 238, 12, 1, 2089, 2091, 83), (291, 0, 237, 12, 0, 1998, 2000, 63), (294, 0, 241, 12, 3, 2093, 2095, 84), (301, 0, 242, 12, 1, 2061, 2063, 78), (304, 0, 219, 12, 0, 1990, 1992, 61), (307, 0, 243, 12, 0, 1994, 1996, 62), (310, 0, 245, 12, 2, 2073, 2075, 80), (314, 0, 246, 12, 2, 2069, 2071, 79), (317, 0, 240, 12, 1, 2081, 2083, 81), (320, 0, 231, 12, 2, 2097, 2099, 85), (323, 0, 294, 12, 0, 2101, 2103, 86), (326, 0, 230, 12, 1, 2113, 2115, 88), (329, 0, 253, 12, 2, 2133, 2135, 89), (335, 0, 256, 12, 4, 2145, 2147, 91), (348, 0, 255, 12, 2, 2141, 2143, 90), (351, 0, 204, 12, 1, 2149, 2151, 92), (354, 0, 259, 12, 2, 2157, 2159, 93), (357, 1, 262, 0, 2, 2169, 2170, 0), (360, 0, 263, 12, 3, 2165, 2167, 94), (363, 0, 265, 12, 1, 2180, 2182, 95), (369, 0, 272, 12, 5, 2212, 2214, 99), (373, 0, 273, 12, 4, 2208, 2210, 98), (377, 0, 274, 12, 1, 2216, 2218, 100), (381, 0, 275, 12, 2, 2220, 2222, 101), (385, 0, 276, 12, 2, 2224, 2226, 102), (388, 0, 277, 12, 2, 2228, 2230, 103), (391, 0, 278, 12, 1, 2232, 2234, 104), (394, 0, 279, 12, 5, 2204, 2206, 97), (398, 0, 271, 12, 3, 2200, 2202, 96), (401, 0, 280, 12, 4, 2248, 2250, 106), (405, 0, 260, 12, 1, 2252, 2254, 107), (411, 0, 283, 12, 5, 2244, 2246, 105), (415, 0, 287, 12, 1, 2268, 2270, 108), (418, 0, 289, 12, 2, 2280, 2282, 110), (421, 0, 290, 12, 3, 2276, 2278, 109), (424, 0, 291, 12, 3, 2284, 2286, 111), (427, 0, 293, 12, 3, 2105, 2107, 87), (430, 0, 297, 12, 3, 2300, 2302, 112), (433, 0, 300, 12, 2, 2324, 2326, 116), (436, 0, 301, 12, 3, 2320, 2322, 115), (439, 0, 302, 12, 4, 2328, 2330, 117), (442, 0, 257, 12, 1, 2312, 2314, 113), (445, 0, 303, 12, 2, 2316, 2318, 114), (448, 0, 305, 12, 1, 2340, 2342, 119), (451, 0, 306, 12, 1, 2344, 2346, 120), (454, 0, 307, 12, 1, 2348, 2350, 121), (457, 0, 308, 12, 1, 2336, 2338, 118), (460, 0, 311, 12, 3, 2368, 2370, 124), (463, 0, 312, 12, 1, 2364, 2366, 123), (469, 0, 313, 12, 2, 2360, 2362, 122), (474, 1, 316, 0, 2, 2392, 2393, 0), (477, 0, 320, 12, 0, 2385, 2387, 126), (480, 1, 317, 0, 3, 2389, 2390, 0), (483, 0, 318, 12, 1, 2396, 2398, 127), (486, 0, 319, 12, 3, 2400, 2402, 128), (489, 0, 321, 12, 1, 2381, 2383, 125), (492, 0, 323, 12, 1, 2408, 2410, 129), (495, 0, 325, 12, 1, 2420, 2422, 131), (515, 0, 326, 12, 1, 2428, 2430, 133), (522, 1, 329, 0, 1, 2434, 2435, 0), (526, 0, 328, 12, 4, 2444, 2446, 134), (529, 0, 327, 12, 1, 2448, 2450, 135), (532, 0, 330, 12, 1, 2424, 2426, 132), (541, 0, 332, 12, 1, 2456, 2458, 137), (544, 0, 333, 12, 1, 2464, 2466, 139), (547, 0, 334, 12, 2, 2468, 2470, 140), (550, 0, 335, 12, 0, 2460, 2462, 138), (557, 0, 338, 12, 1, 2480, 2482, 143), (560, 0, 337, 12, 2, 2484, 2486, 144), (563, 0, 340, 12, 1, 2488, 2490, 145), (569, 0, 339, 12, 1, 2496, 2498, 147), (572, 0, 342, 12, 4, 2500, 2502, 148), (575, 0, 346, 12, 3, 2520, 2522, 153), (581, 0, 347, 12, 2, 2516, 2518, 152), (584, 0, 341, 12, 0, 2476, 2478, 142), (587, 0, 343, 12, 1, 2492, 2494, 146), (590, 0, 344, 12, 0, 2504, 2506, 149), (593, 0, 345, 12, 0, 2508, 2510, 150), (596, 0, 348, 12, 1, 2512, 2514, 151), (600, 0, 331, 12, 0, 2416, 2418, 130), (603, 0, 336, 12, 0, 2452, 2454, 136), (606, 0, 349, 12, 0, 2472, 2474, 141), (609, 0, 350, 12, 1, 2524, 2526, 154), (612, 0, 354, 12, 1, 2536, 2538, 155)]
def zpk_Model : List (Nat × Nat × Int × Nat) := [(472, 0, -100000, 2376), (473, 0, 1103515245, 2395), (518, 1, 27, 2432), (520, 1, 96, 2433), (501, 1, 1887, 2437), (503, 1, 1960177, 2438), (505, 1, 1752773, 2439), (507, 1, 10277596, 2440), (509, 1, 388602, 2441), (511, 1, 10631, 2442), (513, 1, 28959, 2443)]
def zpf_Integer : List (Nat × Nat × Nat × Nat) := []
def zpm_Integer : List (Nat × Nat × Nat × Nat × Nat × Nat × Nat × Nat) := []
def zpk_Integer : List (Nat × Nat × Int × Nat) := [(265, 0, 1431655765, 822), (266, 0, 858993459, 823), (267, 0, 252645135, 824)]
def zpf_Arrays : List (Nat × Nat × Nat × Nat) := []
def zpm_Arrays : List (Nat × Nat × Nat × Nat × Nat × Nat × Nat × Nat) := []
def zpk_Arrays : List (Nat × Nat × Int × Nat) := []
def zMMP : List Nat := [177, 935, 932]
def zArrP : List Nat := [805, 804, 175]
end
section
-- part 02.fw.lean.txt
/-! ===== an abstract machine over a fixed set of cells: values are (type, Int): 0 int, 1 long, 2 a reference (its number, -1 null, -2 the script) ===== -/
abbrev zV : Type := Nat × Int
abbrev zMem : Type := Int → Int → Int
abbrev zLv : Type := List (Nat × zV)
abbrev zSh : Type := (FieldType × Nat × List (Option Nat)) ⊕ (Nat × List (Option (Option Nat)))
abbrev zEv : Type := String × ByteArray × Nat × Option FieldType × (Nat → Option (Nat × Nat)) × (Nat → Option zMI) × (Nat → Option zV) × Nat × Nat × (Nat → zMR)
abbrev zRnT : Type := zMR → List zV → zMem → (Option zV → zMem → Prop) → Prop
abbrev zOm : Type := Launch × va_G × List vw_C × (FieldType → ClassId) × Nat × Nat × List zSh
def zS (O : zOm) : List zSh := O.2.2.2.2.2.2
def zi (x : Int) : Int32 := Int32.ofInt x
def zl (x : Int) : Int64 := Int64.ofInt x
def zw32 (x : Int) : Int := Int.bmod x 4294967296
def zw64 (x : Int) : Int := Int.bmod x 18446744073709551616
def zand (x y : Int) : Int := (zi x &&& zi y).toInt
def zor (x y : Int) : Int := (zi x ||| zi y).toInt
def zxor (x y : Int) : Int := (zi x ^^^ zi y).toInt
def zshl (x y : Int) : Int := (zi x <<< (zi y &&& 31)).toInt
def zshr (x y : Int) : Int := (zi x >>> (zi y &&& 31)).toInt
def zushr (x y : Int) : Int := ((zi x).toUInt32 >>> ((zi y).toUInt32 &&& Int32.toUInt32 31)).toInt32.toInt
def zi2b (x : Int) : Int := (zi x).toInt8.toInt32.toInt
def zcmp (x y : Int) : Int := if x < y then -1 else if x = y then 0 else 1
def zup (f : Int → Int) (i v : Int) : Int → Int := fun j => if j = i then v else f j
def zput (M : zMem) (a : Int) (f : Int → Int) : zMem := fun b => if b = a then f else M b
def zcpy (f g : Int → Int) (sp dp n : Int) : Int → Int := fun j => if dp ≤ j ∧ j < dp + n then f (sp + (j - dp)) else g j
def zcat (v : zV) : Nat := if v.1 = 1 then 2 else 1
def zcats (st : List zV) : Nat := (st.map zcat).sum
def zin32 (x : Int) : Prop := -2147483648 ≤ x ∧ x < 2147483648
def zin64 (x : Int) : Prop := -9223372036854775808 ≤ x ∧ x < 9223372036854775808
def zok (v : zV) : Prop := match v.1 with
  | 0 => zin32 v.2
  | 1 => zin64 v.2
  | _ => -2 ≤ v.2
def zfit (ty : FieldType) (x : Int) : Prop := match ty with
  | .boolean => x = 0 ∨ x = 1
  | .byte => -128 ≤ x ∧ x < 128
  | .long => zin64 x
  | _ => zin32 x
def zShOk (row : Int → Int) : zSh → Prop
  | .inl (ty, n, _) => ∀ j : Nat, j < n → zfit ty (row j)
  | .inr (_, fks) => ∀ k : Nat, k < fks.length → zin32 (row k)
def zMok (S : List zSh) (M : zMem) : Prop := ∀ (i : Nat) (sh : zSh), S[i]? = some sh → zShOk (M i) sh
/-- a field: none: no such; some none: an int; some (some r): a reference -/
def zFld (S : List zSh) (o : Int) (ci k : Nat) : Option (Option (Option Nat)) :=
  if 0 ≤ o then (match S[o.toNat]? with
    | some (.inr (c, fks)) => if c = ci then fks[k]? else none
    | _ => none) else none
def zArr (S : List zSh) (a : Int) (ty : FieldType) (n : Nat) : Prop := 0 ≤ a ∧ ∃ rs, S[a.toNat]? = some (.inl (ty, n, rs))
def zArrR (S : List zSh) (a : Int) (C : String) (n : Nat) (rs : List (Option Nat)) : Prop := 0 ≤ a ∧ S[a.toNat]? = some (.inl (.object C, n, rs))
def zObj (S : List zSh) (o : Int) (ci : Nat) : Prop := 0 ≤ o ∧ ∃ fks, S[o.toNat]? = some (.inr (ci, fks))
def zrv (r : Option Nat) : zV := (2, match r with
  | none => -1
  | some k => (k : Int))
def zLook (lv : zLv) (k : Nat) : Option zV := (lv.find? (fun q => q.1 == k)).map (·.2)
def zSt1 (lv : zLv) (i : Nat) (v : zV) : zLv := (i, v) :: lv.filter (fun q => !(q.1 == i) && !(q.1 + 1 == i && zcat q.2 == 2))
def zSt2 (lv : zLv) (i : Nat) (v : zV) : zLv := (i, v) :: lv.filter (fun q => !(q.1 == i) && (!(q.1 == i + 1) && !(q.1 + 1 == i && zcat q.2 == 2)))
def zcond (c : Jvm.ClassFile.Cond) (x y : Int) : Prop := match c with
  | .eq => x = y
  | .ne => x ≠ y
  | .lt => x < y
  | .ge => y ≤ x
  | .gt => y < x
  | .le => x ≤ y
/-- one instruction: what must hold here so that the machine comes to a state in G -/
def zStep (ev : zEv) (S : List zSh) (Rn : zRnT) (rt : Option zV → zMem → Prop) (i : Instr) (n pc : Nat) (st : List zV) (lv : zLv) (M : zMem) (G : Nat → List zV → zLv → zMem → Prop) : Prop :=
  match i with
  | .iconst v => n = 1 ∧ (-1 ≤ v ∧ v ≤ 5) ∧ G (pc + 1) ((0, v) :: st) lv M
  | .bipush v => n = 2 ∧ (-128 ≤ v ∧ v ≤ 127) ∧ G (pc + 2) ((0, v) :: st) lv M
  | .sipush v => n = 3 ∧ (-32768 ≤ v ∧ v ≤ 32767) ∧ G (pc + 3) ((0, v) :: st) lv M
  | .lconst v => n = 1 ∧ G (pc + 1) ((1, (v : Nat)) :: st) lv M
  | .aconst_null => n = 1 ∧ G (pc + 1) ((2, -1) :: st) lv M
  | .ldc k => n = 2 ∧ ∃ v, ev.2.2.2.2.2.2.1 k = some (0, v) ∧ zin32 v ∧ G (pc + 2) ((0, v) :: st) lv M
  | .ldc_w k => n = 3 ∧ ∃ v, ev.2.2.2.2.2.2.1 k = some (0, v) ∧ zin32 v ∧ G (pc + 3) ((0, v) :: st) lv M
  | .ldc2_w k => n = 3 ∧ ∃ v, ev.2.2.2.2.2.2.1 k = some (1, v) ∧ zin64 v ∧ G (pc + 3) ((1, v) :: st) lv M
  | .iload k => n = 2 ∧ ∃ x, zLook lv k = some (0, x) ∧ G (pc + 2) ((0, x) :: st) lv M
  | .iload_n k => n = 1 ∧ ∃ x, zLook lv k = some (0, x) ∧ G (pc + 1) ((0, x) :: st) lv M
  | .lload k => n = 2 ∧ ∃ x, zLook lv k = some (1, x) ∧ G (pc + 2) ((1, x) :: st) lv M
  | .lload_n k => n = 1 ∧ ∃ x, zLook lv k = some (1, x) ∧ G (pc + 1) ((1, x) :: st) lv M
  | .aload k => n = 2 ∧ ∃ x, zLook lv k = some (2, x) ∧ G (pc + 2) ((2, x) :: st) lv M
  | .aload_n k => n = 1 ∧ ∃ x, zLook lv k = some (2, x) ∧ G (pc + 1) ((2, x) :: st) lv M
  | .istore k => n = 2 ∧ k < ev.2.2.1 ∧ ∃ x r, st = (0, x) :: r ∧ G (pc + 2) r (zSt1 lv k (0, x)) M
  | .istore_n k => n = 1 ∧ (k : Nat) < ev.2.2.1 ∧ ∃ x r, st = (0, x) :: r ∧ G (pc + 1) r (zSt1 lv k (0, x)) M
  | .lstore k => n = 2 ∧ k + 1 < ev.2.2.1 ∧ ∃ x r, st = (1, x) :: r ∧ G (pc + 2) r (zSt2 lv k (1, x)) M
  | .lstore_n k => n = 1 ∧ (k : Nat) + 1 < ev.2.2.1 ∧ ∃ x r, st = (1, x) :: r ∧ G (pc + 1) r (zSt2 lv k (1, x)) M
  | .astore k => n = 2 ∧ k < ev.2.2.1 ∧ ∃ x r, st = (2, x) :: r ∧ G (pc + 2) r (zSt1 lv k (2, x)) M
  | .astore_n k => n = 1 ∧ (k : Nat) < ev.2.2.1 ∧ ∃ x r, st = (2, x) :: r ∧ G (pc + 1) r (zSt1 lv k (2, x)) M
  | .iinc k d => n = 3 ∧ k < ev.2.2.1 ∧ ∃ x, zLook lv k = some (0, x) ∧ G (pc + 3) st (zSt1 lv k (0, zw32 (x + d))) M
  | .iadd => n = 1 ∧ ∃ x y r, st = (0, y) :: (0, x) :: r ∧ G (pc + 1) ((0, zw32 (x + y)) :: r) lv M
  | .isub => n = 1 ∧ ∃ x y r, st = (0, y) :: (0, x) :: r ∧ G (pc + 1) ((0, zw32 (x - y)) :: r) lv M
  | .imul => n = 1 ∧ ∃ x y r, st = (0, y) :: (0, x) :: r ∧ G (pc + 1) ((0, zw32 (x * y)) :: r) lv M
  | .idiv => n = 1 ∧ ∃ x y r, st = (0, y) :: (0, x) :: r ∧ y ≠ 0 ∧ G (pc + 1) ((0, zw32 (x.tdiv y)) :: r) lv M
  | .irem => n = 1 ∧ ∃ x y r, st = (0, y) :: (0, x) :: r ∧ y ≠ 0 ∧ G (pc + 1) ((0, x.tmod y) :: r) lv M
  | .ineg => n = 1 ∧ ∃ x r, st = (0, x) :: r ∧ G (pc + 1) ((0, zw32 (-x)) :: r) lv M
  | .iand => n = 1 ∧ ∃ x y r, st = (0, y) :: (0, x) :: r ∧ G (pc + 1) ((0, zand x y) :: r) lv M
  | .ior => n = 1 ∧ ∃ x y r, st = (0, y) :: (0, x) :: r ∧ G (pc + 1) ((0, zor x y) :: r) lv M
  | .ixor => n = 1 ∧ ∃ x y r, st = (0, y) :: (0, x) :: r ∧ G (pc + 1) ((0, zxor x y) :: r) lv M
  | .ishl => n = 1 ∧ ∃ x y r, st = (0, y) :: (0, x) :: r ∧ G (pc + 1) ((0, zshl x y) :: r) lv M
  | .ishr => n = 1 ∧ ∃ x y r, st = (0, y) :: (0, x) :: r ∧ G (pc + 1) ((0, zshr x y) :: r) lv M
  | .iushr => n = 1 ∧ ∃ x y r, st = (0, y) :: (0, x) :: r ∧ G (pc + 1) ((0, zushr x y) :: r) lv M
  | .i2l => n = 1 ∧ ∃ x r, st = (0, x) :: r ∧ G (pc + 1) ((1, x) :: r) lv M
  | .l2i => n = 1 ∧ ∃ x r, st = (1, x) :: r ∧ G (pc + 1) ((0, zw32 x) :: r) lv M
  | .i2b => n = 1 ∧ ∃ x r, st = (0, x) :: r ∧ G (pc + 1) ((0, zi2b x) :: r) lv M
  | .ladd => n = 1 ∧ ∃ x y r, st = (1, y) :: (1, x) :: r ∧ G (pc + 1) ((1, zw64 (x + y)) :: r) lv M
  | .lsub => n = 1 ∧ ∃ x y r, st = (1, y) :: (1, x) :: r ∧ G (pc + 1) ((1, zw64 (x - y)) :: r) lv M
  | .lmul => n = 1 ∧ ∃ x y r, st = (1, y) :: (1, x) :: r ∧ G (pc + 1) ((1, zw64 (x * y)) :: r) lv M
  | .lcmp => n = 1 ∧ ∃ x y r, st = (1, y) :: (1, x) :: r ∧ G (pc + 1) ((0, zcmp x y) :: r) lv M
  | .dup => n = 1 ∧ ∃ v r, st = v :: r ∧ zcat v = 1 ∧ G (pc + 1) (v :: v :: r) lv M
  | .dup2 => n = 1 ∧ ∃ v w r, st = v :: w :: r ∧ zcat v = 1 ∧ zcat w = 1 ∧ G (pc + 1) (v :: w :: v :: w :: r) lv M
  | .pop => n = 1 ∧ ∃ v r, st = v :: r ∧ zcat v = 1 ∧ G (pc + 1) r lv M
  | .ifCond c off => n = 3 ∧ ∃ x r t, st = (0, x) :: r ∧ (pc : Int) + off = ((t : Nat) : Int) ∧ (zcond c x 0 → G t r lv M) ∧ (¬ zcond c x 0 → G (pc + 3) r lv M)
  | .if_icmp c off => n = 3 ∧ ∃ x y r t, st = (0, y) :: (0, x) :: r ∧ (pc : Int) + off = ((t : Nat) : Int) ∧ (zcond c x y → G t r lv M) ∧ (¬ zcond c x y → G (pc + 3) r lv M)
  | .ifnull off => n = 3 ∧ ∃ x r t, st = (2, x) :: r ∧ (pc : Int) + off = ((t : Nat) : Int) ∧ (x = -1 → G t r lv M) ∧ (¬ x = -1 → G (pc + 3) r lv M)
  | .ifnonnull off => n = 3 ∧ ∃ x r t, st = (2, x) :: r ∧ (pc : Int) + off = ((t : Nat) : Int) ∧ (¬ x = -1 → G t r lv M) ∧ (x = -1 → G (pc + 3) r lv M)
  | .goto off => n = 3 ∧ ∃ t, (pc : Int) + off = ((t : Nat) : Int) ∧ G t st lv M
  | .tableswitch dflt lo hi offs => ∃ x r, st = (0, x) :: r ∧ ((x < lo ∨ hi < x) → ∃ t, (pc : Int) + dflt = ((t : Nat) : Int) ∧ G t r lv M) ∧ (¬ (x < lo ∨ hi < x) → ∃ off t, offs[(x - lo).toNat]? = some off ∧ (pc : Int) + off = ((t : Nat) : Int) ∧ G t r lv M)
  | .lookupswitch dflt ps => (ps.toList.zip (ps.toList.drop 1)).all (fun (a, next) => a.1 < next.1) = true ∧ ∃ x r t, st = (0, x) :: r ∧ (pc : Int) + Op.lookupswitch.offset ps.toList dflt x = ((t : Nat) : Int) ∧ G t r lv M
  | .getfield k => n = 3 ∧ ∃ o r ci j, st = (2, o) :: r ∧ ev.2.2.2.2.1 k = some (ci, j) ∧ ((zFld S o ci j = some none ∧ G (pc + 3) ((0, M o j) :: r) lv M) ∨ ∃ q, zFld S o ci j = some (some q) ∧ G (pc + 3) (zrv q :: r) lv M)
  | .putfield k => n = 3 ∧ ∃ o x r ci j, st = (0, x) :: (2, o) :: r ∧ ev.2.2.2.2.1 k = some (ci, j) ∧ zFld S o ci j = some none ∧ G (pc + 3) r lv (zput M o (zup (M o) j x))
  | .arraylength => n = 1 ∧ ∃ a r ty k, st = (2, a) :: r ∧ zArr S a ty k ∧ k < 2147483648 ∧ G (pc + 1) ((0, (k : Int)) :: r) lv M
  | .iaload => n = 1 ∧ ∃ j a r k, st = (0, j) :: (2, a) :: r ∧ zArr S a .int k ∧ 0 ≤ j ∧ j < k ∧ G (pc + 1) ((0, M a j) :: r) lv M
  | .baload => n = 1 ∧ ∃ j a r k, st = (0, j) :: (2, a) :: r ∧ (zArr S a .boolean k ∨ zArr S a .byte k) ∧ 0 ≤ j ∧ j < k ∧ G (pc + 1) ((0, M a j) :: r) lv M
  | .laload => n = 1 ∧ ∃ j a r k, st = (0, j) :: (2, a) :: r ∧ zArr S a .long k ∧ 0 ≤ j ∧ j < k ∧ G (pc + 1) ((1, M a j) :: r) lv M
  | .aaload => n = 1 ∧ ∃ j a r C k rs, st = (0, j) :: (2, a) :: r ∧ zArrR S a C k rs ∧ 0 ≤ j ∧ j < k ∧ G (pc + 1) (zrv (rs.getD j.toNat none) :: r) lv M
  | .iastore => n = 1 ∧ ∃ x j a r k, st = (0, x) :: (0, j) :: (2, a) :: r ∧ zArr S a .int k ∧ 0 ≤ j ∧ j < k ∧ G (pc + 1) r lv (zput M a (zup (M a) j x))
  | .bastore => n = 1 ∧ ∃ x j a r k, st = (0, x) :: (0, j) :: (2, a) :: r ∧ ((zArr S a .boolean k ∧ (x = 0 ∨ x = 1)) ∨ (zArr S a .byte k ∧ -128 ≤ x ∧ x < 128)) ∧ 0 ≤ j ∧ j < k ∧ G (pc + 1) r lv (zput M a (zup (M a) j x))
  | .lastore => n = 1 ∧ ∃ x j a r k, st = (1, x) :: (0, j) :: (2, a) :: r ∧ zArr S a .long k ∧ 0 ≤ j ∧ j < k ∧ G (pc + 1) r lv (zput M a (zup (M a) j x))
  | .invokevirtual k => n = 3 ∧ ∃ o as rest f ci na, st = as.reverse ++ (2, o) :: rest ∧ ev.2.2.2.2.2.1 k = some (0, f, ci, na) ∧ as.length = na ∧ zObj S o ci ∧ zcats rest ≤ 8 ∧ (ev.2.2.2.2.2.2.2.2.2 f).2.2.2.2.1 + 1 ≤ ev.2.2.2.2.2.2.2.1 ∧ 8 + ((ev.2.2.2.2.2.2.2.2.2 f).2.2.1 + 11) + (ev.2.2.2.2.2.2.2.2.2 f).2.2.2.2.2 ≤ ev.2.2.2.2.2.2.2.2.1 ∧ Rn (ev.2.2.2.2.2.2.2.2.2 f) ((2, o) :: as) M (fun v M' => G (pc + 3) (v.toList ++ rest) lv M')
  | .invokestatic k => n = 3 ∧ ((∃ as rest kd f ci na, (kd = 1 ∨ kd = 2) ∧ st = as.reverse ++ rest ∧ ev.2.2.2.2.2.1 k = some (kd, f, ci, na) ∧ as.length = na ∧ zcats rest ≤ 8 ∧ (ev.2.2.2.2.2.2.2.2.2 f).2.2.2.2.1 + 1 ≤ ev.2.2.2.2.2.2.2.1 ∧ 8 + ((ev.2.2.2.2.2.2.2.2.2 f).2.2.1 + 11) + (ev.2.2.2.2.2.2.2.2.2 f).2.2.2.2.2 ≤ ev.2.2.2.2.2.2.2.2.1 ∧ Rn (ev.2.2.2.2.2.2.2.2.2 f) as M (fun v M' => G (pc + 3) (v.toList ++ rest) lv M')) ∨
      (∃ a0 sp a1 dp cn rest f ci na k0 k1, st = (0, cn) :: (0, dp) :: (2, a1) :: (0, sp) :: (2, a0) :: rest ∧ ev.2.2.2.2.2.1 k = some (5, f, ci, na) ∧ zArr S a0 .int k0 ∧ zArr S a1 .int k1 ∧ 0 ≤ sp ∧ 0 ≤ dp ∧ 0 ≤ cn ∧ sp + cn ≤ k0 ∧ dp + cn ≤ k1 ∧ 1 ≤ ev.2.2.2.2.2.2.2.1 ∧ zcats rest + (nativeFrameWords "java/lang/System" "arraycopy" 5 + 11) ≤ ev.2.2.2.2.2.2.2.2.1 ∧ G (pc + 3) rest lv (zput M a1 (zcpy (M a0) (M a1) sp dp cn))) ∨
      (∃ x y r mx f ci na, st = (0, y) :: (0, x) :: r ∧ ev.2.2.2.2.2.1 k = some (mx, f, ci, na) ∧ (mx = 3 ∨ mx = 4) ∧ 1 ≤ ev.2.2.2.2.2.2.2.1 ∧ zcats r + 13 ≤ ev.2.2.2.2.2.2.2.2.1 ∧ G (pc + 3) ((0, if mx = 3 then max x y else min x y) :: r) lv M))
  | .ireturn => n = 1 ∧ ∃ x, st = [(0, x)] ∧ ((ev.2.2.2.1 = some .boolean ∧ (x = 0 ∨ x = 1)) ∨ ev.2.2.2.1 = some .int) ∧ rt (some (0, x)) M
  | .lreturn => n = 1 ∧ ∃ x, st = [(1, x)] ∧ ev.2.2.2.1 = some .long ∧ rt (some (1, x)) M
  | .areturn => n = 1 ∧ ∃ x C, st = [(2, x)] ∧ ev.2.2.2.1 = some (.object C) ∧ rt (some (2, x)) M
  | .return_ => n = 1 ∧ st = [] ∧ ev.2.2.2.1 = none ∧ rt none M
  | _ => False
end
